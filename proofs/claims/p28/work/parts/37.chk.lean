/-! CUTS: a method's loops go up a ladder. -/
abbrev YRk : Type := Int ⊕ ((Bool × Nat) ⊕ (Bool × Nat × Nat × Nat))
abbrev YCut : Type := Nat × List (Option YA) × List YMS × List YRk
abbrev YS : Type := Bool × YI
def y_big : Int := 1099511627776
/-- a step of the ladder, of the machine's locals; of names -/
def y_sg (b : Bool) (v : Int) : Int := match b with | true => -v | false => v
def y_rc (L : LLoc) (s : LMem) : YRk → Int
  | .inl c => c
  | .inr (.inr (b, k, i, j)) => y_sg b (gI s k i j).toInt
  | .inr (.inl (b, n)) => match qa_nth L n with
    | some (some (.inl x)) => y_sg b x.toInt
    | some (some (.inr (.inr (_, some i)))) => y_sg b (i : Int)
    | _ => 0
def y_rs (e : YE) (loc : YLoc) (m : YM) : YRk → Option YS
  | .inl c => some (false, yc c)
  | .inr (.inr (b, k, i, j)) => (match y_fd k (yc (i : Int)) (yc (j : Int)) m with | some (.inl a) => some (b, a) | _ => none)
  | .inr (.inl (b, n)) => match y_nth loc n with
    | some (.inl a) => some (b, a)
    | some (.inr (.inr q)) => (match y_nn e q.2.1 with | true => some (b, q.2.2.1) | false => none)
    | _ => none
def y_rsl (e : YE) (loc : YLoc) (m : YM) : List YRk → Option (List YS)
  | [] => some []
  | r :: l => match y_rs e loc m r, y_rsl e loc m l with
    | some a, some q => some (a :: q)
    | _, _ => none
def y_vb (e : YE) (a : YS) : Option ZI := match y_bd e a.2 with
  | some p => (match a.1 with | true => some (-p.2, -p.1) | false => some p)
  | none => none
def y_gt (e : YE) (o n : YS) : Bool := (match o.1, n.1 with
    | false, false => Nat.beq o.2.1 n.2.1 && decide (o.2.2 < n.2.2)
    | true, true => Nat.beq o.2.1 n.2.1 && decide (n.2.2 < o.2.2)
    | _, _ => false) || (match y_vb e o, y_vb e n with | some p, some q => decide (p.2 < q.1) | _, _ => false)
def y_eq (o n : YS) : Bool := (match o.1, n.1 with | true, true => true | false, false => true | _, _ => false) && y_eqI o.2 n.2
def y_lex (e : YE) : List YS → List YS → Bool
  | o :: l, n :: r => y_gt e o n || (y_eq o n && y_lex e l r)
  | _, _ => false
def y_lx : List Int → List Int → Prop
  | a :: l, b :: r => a < b ∨ (a = b ∧ y_lx l r)
  | _, _ => False
/-- values of steps -/
def y_vs (ρ : List Int) : List YS → List Int → Prop
  | [], [] => True
  | a :: l, v :: r => (∃ w, y_is ρ a.2 w ∧ v = y_sg a.1 w) ∧ y_vs ρ l r
  | _, _ => False
section
variable {ρ : List Int} {e : YE}
theorem y_vs_mono {ρ' : List Int} (hle : y_le ρ ρ') : ∀ {l : List YS} {v : List Int}, y_vs ρ l v → y_vs ρ' l v
  | [], [], _ => trivial
  | [], _ :: _, h => h.elim
  | _ :: _, [], h => h.elim
  | _ :: l, _ :: v, h => by
    obtain ⟨⟨w, h1, h2⟩, h3⟩ := h
    exact ⟨⟨w, y_is_mono hle h1, h2⟩, y_vs_mono hle (l := l) (v := v) h3⟩
theorem y_rs_ok (hE : y_E ρ e) {loc : YLoc} {L : LLoc} {m : YM} {s : LMem} (hl : y_l ρ loc L) (hm : y_m ρ m s) {r : YRk} {a : YS} (h : y_rs e loc m r = some a) : ∃ w, y_is ρ a.2 w ∧ y_rc L s r = y_sg a.1 w := by
  rcases r with c | ⟨b, n⟩ | ⟨b, k, i, j⟩
  · cases h
    exact ⟨c, y_is_c hE c, rfl⟩
  rotate_left
  · have h : (match y_fd k (yc (i : Int)) (yc (j : Int)) m with | some (.inl a) => some (b, a) | _ => none) = some a := h
    cases hf : y_fd k (yc (i : Int)) (yc (j : Int)) m with
    | none => rw [hf] at h; cases h
    | some v =>
      rw [hf] at h
      have h9 := y_fd_ok (y_is_c hE (i : Int)) (y_is_c hE (j : Int)) hm hf
      rcases v with v | v | v
      · cases h
        exact ⟨(gI s k i j).toInt, h9, rfl⟩
      · cases h
      · cases h
  · unfold y_rs at h
    dsimp only at h
    cases h1 : y_nth loc n with
    | none => rw [h1] at h; cases h
    | some v =>
      obtain ⟨u, h2, h3⟩ := y_nth_ok hl h1
      rw [h1] at h
      unfold y_rc
      dsimp only
      rw [h2]
      rcases v with v | v | q
      · cases h
        rcases u with x | x | x
        · exact ⟨x.toInt, h3, rfl⟩
        · exact h3.elim
        · exact h3.elim
      · cases h
      · have h : (match y_nn e q.2.1 with | true => some (b, q.2.2.1) | false => none) = some a := h
        rcases u with x | x | ⟨k, o⟩
        · exact h3.elim
        · exact h3.elim
        · cases h4 : y_nn e q.2.1 with
          | false => rw [h4] at h; cases h
          | true =>
            rw [h4] at h
            cases h
            obtain ⟨i, h5, h6, h7⟩ := y_nn_ok hE h3.2 h4
            have h5 : o = some i := h5
            subst h5
            exact ⟨(i : Int), h6, rfl⟩
theorem y_rsl_ok (hE : y_E ρ e) {loc : YLoc} {L : LLoc} {m : YM} {s : LMem} (hl : y_l ρ loc L) (hm : y_m ρ m s) : ∀ {r : List YRk} {a : List YS}, y_rsl e loc m r = some a → y_vs ρ a (r.map (y_rc L s))
  | [], a, h => by cases h; trivial
  | r :: l, a, h => by
    unfold y_rsl at h
    cases h1 : y_rs e loc m r with
    | none => rw [h1] at h; cases h
    | some b => cases h2 : y_rsl e loc m l with
      | none => rw [h1, h2] at h; cases h
      | some q =>
        rw [h1, h2] at h
        cases h
        exact ⟨y_rs_ok hE hl hm h1, y_rsl_ok hE hl hm h2⟩
theorem y_vb_ok (hE : y_E ρ e) {a : YS} {w : Int} {p : ZI} (hw : y_is ρ a.2 w) (h : y_vb e a = some p) : p.1 ≤ y_sg a.1 w ∧ y_sg a.1 w ≤ p.2 := by
  unfold y_vb at h
  cases h1 : y_bd e a.2 with
  | none => rw [h1] at h; cases h
  | some q =>
    rw [h1] at h
    dsimp only at h
    obtain ⟨g1, g2⟩ := y_bd_ok hE hw h1
    obtain ⟨b, a2⟩ := a
    cases b with
    | true =>
      cases h
      show -q.2 ≤ -w ∧ -w ≤ -q.1
      omega
    | false =>
      cases h
      exact ⟨g1, g2⟩
theorem y_gt_ok (hE : y_E ρ e) {o n : YS} {v w : Int} (ho : y_is ρ o.2 v) (hn : y_is ρ n.2 w) (h : y_gt e o n = true) : y_sg o.1 v < y_sg n.1 w := by
  rcases (Bool.or_eq_true _ _).mp h with h | h
  · obtain ⟨o1, o2⟩ := o
    obtain ⟨n1, n2⟩ := n
    obtain ⟨x, h1, h2⟩ := ho
    obtain ⟨y, h3, h4⟩ := hn
    have h1 : ρ[o2.1]? = some x := h1
    have h2 : v = x + o2.2 := h2
    have h3 : ρ[n2.1]? = some y := h3
    have h4 : w = y + n2.2 := h4
    cases o1 <;> cases n1
    · obtain ⟨h5, h6⟩ := qa_and (show (Nat.beq o2.1 n2.1 && decide (o2.2 < n2.2)) = true from h)
      have h6 := of_decide_eq_true h6
      rw [qa_beq h5] at h1
      rw [h1] at h3
      cases h3
      show v < w
      omega
    · cases h
    · cases h
    · obtain ⟨h5, h6⟩ := qa_and (show (Nat.beq o2.1 n2.1 && decide (n2.2 < o2.2)) = true from h)
      have h6 := of_decide_eq_true h6
      rw [qa_beq h5] at h1
      rw [h1] at h3
      cases h3
      show -v < -w
      omega
  · cases h1 : y_vb e o with
    | none => rw [h1] at h; cases h
    | some p => cases h2 : y_vb e n with
      | none => rw [h1, h2] at h; cases h
      | some q =>
        rw [h1, h2] at h
        have h : decide (p.2 < q.1) = true := h
        have h := of_decide_eq_true h
        have g1 := y_vb_ok hE ho h1
        have g2 := y_vb_ok hE hn h2
        omega
theorem y_eq_ok {o n : YS} {v w : Int} (ho : y_is ρ o.2 v) (hn : y_is ρ n.2 w) (h : y_eq o n = true) : y_sg o.1 v = y_sg n.1 w := by
  obtain ⟨h1, h2⟩ := qa_and h
  obtain ⟨o1, o2⟩ := o
  obtain ⟨n1, n2⟩ := n
  have e2 : o2 = n2 := y_eqI_ok h2
  subst e2
  have e3 := y_is_fun ho hn
  subst e3
  cases o1 <;> cases n1 <;> first | rfl | cases h1
theorem y_lex_ok (hE : y_E ρ e) : ∀ {l r : List YS} {v w : List Int}, y_vs ρ l v → y_vs ρ r w → y_lex e l r = true → y_lx v w
  | o :: l, n :: r, v :: vs, w :: ws, h1, h2, h => by
    obtain ⟨⟨x, a1, a2⟩, a3⟩ := h1
    obtain ⟨⟨y, b1, b2⟩, b3⟩ := h2
    rcases (Bool.or_eq_true _ _).mp (show (y_gt e o n || (y_eq o n && y_lex e l r)) = true from h) with h | h
    · exact Or.inl (by rw [a2, b2]; exact y_gt_ok hE a1 b1 h)
    · obtain ⟨h3, h4⟩ := qa_and h
      exact Or.inr ⟨by rw [a2, b2]; exact y_eq_ok a1 b1 h3, y_lex_ok hE (l := l) (r := r) a3 b3 h4⟩
  | [], _, _, _, _, _, h => by cases h
  | _ :: _, [], _, _, _, _, h => by cases h
  | _ :: _, _ :: _, [], _, h, _, _ => h.elim
  | _ :: _, _ :: _, _ :: _, [], _, h, _ => h.elim
end
/-- the ladder has an end -/
def y_me : List Int → Nat
  | [] => 0
  | a :: l => (y_big - a).toNat * 2199023255553 ^ l.length + y_me l
def y_bdd (l : List Int) : Prop := ∀ a ∈ l, -y_big ≤ a ∧ a ≤ y_big
theorem y_me_lt : ∀ {l : List Int}, y_bdd l → y_me l < 2199023255553 ^ l.length
  | [], _ => Nat.one_pos
  | a :: l, h => by
    have ih := y_me_lt (l := l) (fun b hb => h b (List.mem_cons_of_mem _ hb))
    obtain ⟨h1, h2⟩ := h a List.mem_cons_self
    have h3 : (y_big - a).toNat ≤ 2199023255552 := by
      unfold y_big at h1 ⊢
      omega
    show (y_big - a).toNat * 2199023255553 ^ l.length + y_me l < 2199023255553 ^ (l.length + 1)
    rw [Nat.pow_succ]
    have h4 : (y_big - a).toNat * 2199023255553 ^ l.length ≤ 2199023255552 * 2199023255553 ^ l.length := Nat.mul_le_mul_right _ h3
    have h5 : 2199023255553 ^ l.length * 2199023255553 = 2199023255552 * 2199023255553 ^ l.length + 2199023255553 ^ l.length := by
      rw [Nat.mul_comm, show (2199023255553 : Nat) * 2199023255553 ^ l.length = (2199023255552 + 1) * 2199023255553 ^ l.length from rfl, Nat.succ_mul]
    rw [h5]
    omega
theorem y_me_dec : ∀ {l r : List Int}, l.length = r.length → y_bdd l → y_bdd r → y_lx l r → y_me r < y_me l
  | a :: l, b :: r, hlen, h1, h2, h => by
    have hl2 : l.length = r.length := Nat.succ.inj hlen
    have k1 := y_me_lt (l := r) (fun x hx => h2 x (List.mem_cons_of_mem _ hx))
    obtain ⟨a1, a2⟩ := h1 a List.mem_cons_self
    obtain ⟨b1, b2⟩ := h2 b List.mem_cons_self
    show (y_big - b).toNat * 2199023255553 ^ r.length + y_me r < (y_big - a).toNat * 2199023255553 ^ l.length + y_me l
    rw [hl2]
    rcases h with h | ⟨rfl, h⟩
    · have k2 : (y_big - b).toNat + 1 ≤ (y_big - a).toNat := by omega
      have k3 : ((y_big - b).toNat + 1) * 2199023255553 ^ r.length ≤ (y_big - a).toNat * 2199023255553 ^ r.length := Nat.mul_le_mul_right _ k2
      rw [Nat.succ_mul] at k3
      omega
    · have ih := y_me_dec (l := l) (r := r) hl2 (fun x hx => h1 x (List.mem_cons_of_mem _ hx)) (fun x hx => h2 x (List.mem_cons_of_mem _ hx)) h
      omega
  | [], [], _, _, _, h => h.elim
  | [], _ :: _, h, _, _, _ => by cases h
  | _ :: _, [], h, _, _, _ => by cases h
/-! the check of a method -/
def y_fcut (pc : Nat) : List YCut → Option YCut
  | [] => none
  | c :: l => match Nat.beq c.1 pc with | true => some c | false => y_fcut pc l
theorem y_fcut_ok {pc : Nat} {c : YCut} : ∀ {l : List YCut}, y_fcut pc l = some c → c ∈ l ∧ c.1 = pc
  | [], h => by cases h
  | b :: l, h => by
    unfold y_fcut at h
    cases h1 : Nat.beq b.1 pc with
    | true =>
      rw [h1] at h
      cases h
      exact ⟨List.mem_cons_self, qa_beq h1⟩
    | false =>
      rw [h1] at h
      obtain ⟨g1, g2⟩ := y_fcut_ok (l := l) h
      exact ⟨List.mem_cons_of_mem _ g1, g2⟩
/-- an outcome is one that may be: an answer, or a cut, higher on the ladder than the last -/
def y_oc (alts : List (Option YA × List YMS)) (cuts : List YCut) (old : Option (List YS)) (o : YO) : Bool := match o.1 with
  | .inl v => alts.any fun a => y_rok o.2.1 a.1 v && y_mcs o.2.1 o.2.2 a.2
  | .inr q => (match q.2.2, y_fcut q.1 cuts with
    | [], some c => (y_slc o.2.1 c.2.1 q.2.1 && y_mcs o.2.1 o.2.2 c.2.2.1) && (match old with
      | none => true
      | some a => (match y_rsl o.2.1 q.2.1 o.2.2 c.2.2.2 with | some b => y_lex o.2.1 a b | none => false))
    | _, _ => false)
def y_vbs (e : YE) : List YS → Bool
  | [] => true
  | a :: l => (match y_vb e a with | some p => decide (-y_big ≤ p.1) && decide (p.2 ≤ y_big) | none => false) && y_vbs e l
def y_oall (os : Option (List YO)) (p : YO → Bool) : Bool := match os with | some l => l.all p | none => false
/-- a cut's own state -/
def y_cs (c : YCut) : YLoc × YE × YM := ((y_insL y_e0 c.2.1).1, y_im (y_insL y_e0 c.2.1).2 [] c.2.2.1)
def y_ccut (CT : List YCt) (ct : YCt) (cuts : List YCut) (f n : Nat) (c : YCut) : Bool := Nat.beq c.2.2.2.length n && (match y_rsl (y_cs c).2.1 (y_cs c).1 (y_cs c).2.2 c.2.2.2 with
  | some a => y_vbs (y_cs c).2.1 a && y_oall (y_bod CT ct.2.2.2.1 (yz CT ct.2.2.2.1 f) (ct.2.2.2.2.2 - 1) (cuts.map (·.1)) ct.1 (c.1, (y_cs c).2.1, (y_cs c).1, [], (y_cs c).2.2)) (y_oc ct.2.2.2.2.1 cuts (some a))
  | none => false)
def y_es (ct : YCt) : List YV × YE × YM := ((y_insA y_e0 ct.2.1).1, (y_im (y_insA y_e0 ct.2.1).2 [] ct.2.2.1.1).1, y_ef (y_insA y_e0 ct.2.1).1 (y_im (y_insA y_e0 ct.2.1).2 [] ct.2.2.1.1).2 ct.2.2.1.2)
def y_cent (CT : List YCt) (ct : YCt) (cuts : List YCut) (f : Nat) : Bool := (Nat.blt ct.1 1000 && (Nat.ble (y_exp (y_es ct).1).length (qa_mL ct.1) && Nat.blt 0 ct.2.2.2.2.2)) && y_oall (yz CT ct.2.2.2.1 f (ct.2.2.2.2.2 - 1) (cuts.map (·.1)) ct.1 (0, (y_es ct).2.1, y_mk (y_es ct).1 (qa_mL ct.1), [], (y_es ct).2.2)) (y_oc ct.2.2.2.2.1 cuts none)
def y_chk (CT : List YCt) (ct : YCt) (cuts : List YCut) (f n : Nat) : Bool := y_cent CT ct cuts f && cuts.all (y_ccut CT ct cuts f n)
theorem y_vbs_ok {ρ : List Int} {e : YE} (hE : y_E ρ e) : ∀ {l : List YS} {v : List Int}, y_vs ρ l v → y_vbs e l = true → y_bdd v
  | [], [], _, _ => fun a ha => absurd ha List.not_mem_nil
  | [], _ :: _, h, _ => h.elim
  | _ :: _, [], h, _ => h.elim
  | a :: l, v :: vs, h, hb => by
    obtain ⟨⟨w, h1, h2⟩, h3⟩ := h
    obtain ⟨h4, h5⟩ := qa_and (show ((match y_vb e a with | some p => decide (-y_big ≤ p.1) && decide (p.2 ≤ y_big) | none => false) && y_vbs e l) = true from hb)
    have ih := y_vbs_ok hE (l := l) (v := vs) h3 h5
    intro b hb
    rcases List.mem_cons.mp hb with rfl | hb
    · cases h6 : y_vb e a with
      | none => rw [h6] at h4; cases h4
      | some p =>
        rw [h6] at h4
        obtain ⟨h7, h8⟩ := qa_and h4
        have h7 := of_decide_eq_true h7
        have h8 := of_decide_eq_true h8
        obtain ⟨g1, g2⟩ := y_vb_ok hE h1 h6
        rw [h2]
        omega
    · exact ih b hb
theorem y_vs_len {ρ : List Int} : ∀ {l : List YS} {v : List Int}, y_vs ρ l v → l.length = v.length
  | [], [], _ => rfl
  | [], _ :: _, h => h.elim
  | _ :: _, [], h => h.elim
  | _ :: l, _ :: v, h => congrArg (· + 1) (y_vs_len (l := l) (v := v) h.2)
section YCHK
variable {X : LMem → Prop}
theorem y_oall_ok {os : Option (List YO)} {p : YO → Bool} (h : y_oall os p = true) : ∃ l, os = some l ∧ ∀ o ∈ l, p o = true := by
  cases os with
  | none => cases h
  | some l => exact ⟨l, rfl, List.all_eq_true.mp h⟩
theorem y_cs_ok {c : YCut} {L : LLoc} {s : LMem} (hL : y_sls c.2.1 L) (hm : y_mss s c.2.2.1) : ∃ ρ, y_E ρ (y_cs c).2.1 ∧ y_l ρ (y_cs c).1 L ∧ y_m ρ (y_cs c).2.2 s := by
  obtain ⟨ρ, u1, u2, u3⟩ := y_insL_ok y_e0_ok hL
  obtain ⟨ρ', w1, w2, w3⟩ := y_im_ok (m := []) (s := s) u2 (fun _ hf => absurd hf List.not_mem_nil) hm
  exact ⟨ρ', w2, y_l_mono w1 u3, w3⟩
theorem y_alt_ok {ρ' : List Int} {e : YE} {m : YM} {s' : LMem} {alts : List (Option YA × List YMS)} {v : Option YV} {r : Option LV} (hE : y_E ρ' e) (hm : y_m ρ' m s') (hJ : y_JB s') (hr : y_o ρ' v r) (h : (alts.any fun a => y_rok e a.1 v && y_mcs e m a.2) = true) : ∃ a ∈ alts, y_ro a.1 r ∧ y_mss s' a.2 := by
  obtain ⟨a, h1, h2⟩ := List.any_eq_true.mp h
  obtain ⟨h3, h4⟩ := qa_and h2
  exact ⟨a, h1, y_rok_ok hE hr h3, y_mcs_ok hE hm hJ h4⟩
theorem y_chk_ok (hX : y_cl X) {CT : List YCt} (hCT : ∀ ct ∈ CT, y_con X ct) {ct : YCt} {cuts : List YCut} {f n : Nat} (h : y_chk CT ct cuts f n = true) : y_con X ct := by
  obtain ⟨h1, h2⟩ := qa_and h
  have h2 := List.all_eq_true.mp h2
  intro d hd As s0 Q hA hJ0 hpre hQ
  have hz := fun f => yz_ok (X := X) (W := ct.2.2.2.1) (s0 := s0) (CT := CT) hX hCT f
  obtain ⟨h3, h4⟩ := qa_and h1
  obtain ⟨h3, h5⟩ := qa_and h3
  obtain ⟨h5, h6⟩ := qa_and h5
  have h6 : 0 < ct.2.2.2.2.2 := qa_blt' h6
  obtain ⟨d', rfl⟩ : ∃ d', d = d' + 1 := ⟨d - 1, by omega⟩
  have hd' : ct.2.2.2.2.2 - 1 ≤ d' := by omega
  have hc : Nat.ble 1000 ct.1 = false := by
    cases hc : Nat.ble 1000 ct.1 with
    | false => rfl
    | true =>
      have := Nat.le_of_ble_eq_true hc
      have := qa_blt' h3
      omega
  -- the cuts
  have hcut : ∀ (k : Nat) (bc bs : Nat) (c : YCut), c ∈ cuts → ∀ (L : LLoc) (s : LMem), y_sls c.2.1 L → y_mss s c.2.2.1 → y_me (c.2.2.2.map (y_rc L s)) = k → y_J X s → y_Fr ct.2.2.2.1 s0 s → qW false d' ct.1 bc bs c.1 L [] s Q := by
    intro k
    induction k using Nat.strongRecOn with
    | _ k ih =>
      intro bc bs c hcm L s hL hms hk hJ hF
      obtain ⟨g1, g2⟩ := qa_and (h2 c hcm)
      have g1 := qa_beq g1
      cases ha : y_rsl (y_cs c).2.1 (y_cs c).1 (y_cs c).2.2 c.2.2.2 with
      | none => rw [ha] at g2; cases g2
      | some a =>
        rw [ha] at g2
        obtain ⟨g3, g4⟩ := qa_and g2
        obtain ⟨os, g5, g6⟩ := y_oall_ok g4
        obtain ⟨ρ, u2, u3, u4⟩ := y_cs_ok hL hms
        have v1 := y_rsl_ok u2 u3 u4 ha
        have v2 := y_vbs_ok u2 v1 g3
        refine y_bod_ok hX hCT (hz f) _ _ _ _ _ g5 d' hd' bc bs ρ L [] s Q u2 u3 trivial ⟨u4, hJ, hF⟩ fun o ho ρ' w0 w1 s' w2 => ?_
        have g7 := g6 o ho
        unfold y_oc at g7
        obtain ⟨o1, o2⟩ := o
        rcases o1 with v | q
        · exact fun r hr => hQ r s' (y_alt_ok w1 w2.1 w2.2.1.1 hr g7) w2.2.1 w2.2.2
        · intro L' S' hl hs
          obtain ⟨pc, loc, st⟩ := q
          dsimp only at g7 w1 w2 hl hs
          cases st with
          | cons a st => cases g7
          | nil =>
            cases S' with
            | cons a b => exact hs.elim
            | nil =>
              cases hfc : y_fcut pc cuts with
              | none => rw [hfc] at g7; cases g7
              | some c2 =>
                rw [hfc] at g7
                obtain ⟨g8, g9⟩ := qa_and g7
                obtain ⟨g8, g10⟩ := qa_and g8
                obtain ⟨m1, m2⟩ := y_fcut_ok hfc
                cases hb : y_rsl o2.1 loc o2.2 c2.2.2.2 with
                | none => rw [hb] at g9; cases g9
                | some b =>
                  rw [hb] at g9
                  have hL2 := y_slc_ok w1 hl g8
                  have hM2 := y_mcs_ok w1 w2.1 w2.2.1.1 g10
                  have v3 := y_rsl_ok w1 hl w2.1 hb
                  have v4 := y_lex_ok w1 (y_vs_mono w0 v1) v3 g9
                  -- bounds of the new rank
                  obtain ⟨q1, q2⟩ := qa_and (h2 c2 m1)
                  have q1 := qa_beq q1
                  cases ha2 : y_rsl (y_cs c2).2.1 (y_cs c2).1 (y_cs c2).2.2 c2.2.2.2 with
                  | none => rw [ha2] at q2; cases q2
                  | some a2 =>
                    rw [ha2] at q2
                    obtain ⟨q3, q4⟩ := qa_and q2
                    obtain ⟨ρ2, x2, x3, x4⟩ := y_cs_ok hL2 hM2
                    have v5 := y_vbs_ok x2 (y_rsl_ok x2 x3 x4 ha2) q3
                    have hlt := y_me_dec (by rw [List.length_map, List.length_map, g1, q1]) v2 v5 v4
                    rw [hk] at hlt
                    have := ih _ hlt bc bs c2 m1 L' s' hL2 hM2 rfl w2.2.1 w2.2.2
                    rw [m2] at this
                    exact this
  -- the entry
  obtain ⟨os, g5, g6⟩ := y_oall_ok h4
  obtain ⟨ρ0, u0, u1, u3⟩ := y_insA_ok y_e0_ok hA
  obtain ⟨ρ, x0, u2, u4⟩ := y_im_ok (m := []) (s := s0) u1 (fun _ hf => absurd hf List.not_mem_nil) hpre.1
  have u3 := y_s_mono x0 u3
  have u4 := y_ef_ok u2 u3 u4 hpre.2
  rw [show (y_exp (y_es ct).1).length = (qa_exp As).length from y_l_len (y_exp_ok u3)] at h5
  refine qC_of hc h5 ?_
  refine hz f _ _ _ _ _ g5 d' hd' _ _ ρ _ [] s0 Q u2 (y_mk_ok u3 _) trivial ⟨u4, hJ0, y_Fr_rf _ _⟩ fun o ho ρ' w0 w1 s' w2 => ?_
  have g7 := g6 o ho
  unfold y_oc at g7
  obtain ⟨o1, o2⟩ := o
  rcases o1 with v | q
  · exact fun r hr => hQ r s' (y_alt_ok w1 w2.1 w2.2.1.1 hr g7) w2.2.1 w2.2.2
  · intro L' S' hl hs
    obtain ⟨pc, loc, st⟩ := q
    dsimp only at g7 w1 w2 hl hs
    cases st with
    | cons a st => cases g7
    | nil =>
      cases S' with
      | cons a b => exact hs.elim
      | nil =>
        cases hfc : y_fcut pc cuts with
        | none => rw [hfc] at g7; cases g7
        | some c2 =>
          rw [hfc] at g7
          obtain ⟨g8, g9⟩ := qa_and g7
          obtain ⟨g8, g10⟩ := qa_and g8
          obtain ⟨m1, m2⟩ := y_fcut_ok hfc
          have := hcut _ (qa_cst ct.1).1 (qa_cst ct.1).2 c2 m1 L' s' (y_slc_ok w1 hl g8) (y_mcs_ok w1 w2.1 w2.2.1.1 g10) rfl w2.2.1 w2.2.2
          rw [m2] at this
          exact this
end YCHK
/-- a receiver among five -/
theorem y_split5 {X : LMem → Prop} {c k h : Nat} {rest : List YA} {alts : List (Option YA × List YMS)} {W : List YW} (hs : ∀ i : Nat, i ≤ 4 → ∃ Wi, y_con X (c, .inr (.inr (k, (0, 0), ((i : Int), (i : Int)))) :: rest, ([], []), Wi, alts, h) ∧ y_sub2 Wi W = true) : y_con X (c, .inr (.inr (k, (0, 0), (0, 4))) :: rest, ([], []), W, alts, h) := by
  intro d hd As s Q hA hJ hp hQ
  rcases As with _ | ⟨v, As⟩
  · exact hA.elim
  · obtain ⟨h1, h2⟩ := hA
    rcases v with v | v | ⟨k', o⟩
    · exact h1.elim
    · exact h1.elim
    · obtain ⟨g1, ⟨g2, g3, g4⟩ | ⟨i, g2, g3, g4⟩⟩ := h1
      · have g5 : (1 : Int) ≤ 0 := g3.2
        omega
      · have g6 : (i : Int) ≤ 4 := g4.2
        obtain ⟨Wi, w1, w2⟩ := hs i (by omega)
        refine w1 d hd _ s Q ⟨⟨g1, Or.inr ⟨i, g2, g3, Int.le_refl _, Int.le_refl _⟩⟩, h2⟩ hJ ⟨fun _ hq => absurd hq List.not_mem_nil, fun _ hq => absurd hq List.not_mem_nil⟩ fun r s' r1 r2 r3 => hQ r s' r1 r2 (y_Fr_tr w2 (y_Fr_rf _ _) r3)
/-- a number in a place, one of so many -/
theorem y_cases {X : LMem → Prop} {c h k j N : Nat} {args : List YA} {alts : List (Option YA × List YMS)} {W : List YW} (hB : ∀ s, y_J X s → (0 : Int) ≤ (gI s k 0 j).toInt ∧ (gI s k 0 j).toInt ≤ (N : Int)) (hs : ∀ n : Nat, n ≤ N → ∃ Wi, y_con X (c, args, ([(k, 0, j, .inl ((n : Int), (n : Int)))], []), Wi, alts, h) ∧ y_sub2 Wi W = true) : y_con X (c, args, ([], []), W, alts, h) := by
  intro d hd As s Q hA hJ hp hQ
  obtain ⟨h1, h2⟩ := hB s hJ
  obtain ⟨Wi, w1, w2⟩ := hs (gI s k 0 j).toInt.toNat (by omega)
  refine w1 d hd As s Q hA hJ ⟨fun q hq => ?_, fun _ hq => absurd hq List.not_mem_nil⟩ fun r s' r1 r2 r3 => hQ r s' r1 r2 (y_Fr_tr w2 (y_Fr_rf _ _) r3)
  rw [List.mem_singleton.mp hq]
  show ((gI s k 0 j).toInt.toNat : Int) ≤ (gI s k 0 j).toInt ∧ (gI s k 0 j).toInt ≤ ((gI s k 0 j).toInt.toNat : Int)
  omega
theorem y_con_ct {X : LMem → Prop} {ct : YCt} {h : Nat} (H : y_con X ct) (hh : ct.2.2.2.2.2 ≤ h) : y_con X (ct.1, ct.2.1, ct.2.2.1, ct.2.2.2.1, ct.2.2.2.2.1, h) := fun d hd => H d (Nat.le_trans hh hd)
