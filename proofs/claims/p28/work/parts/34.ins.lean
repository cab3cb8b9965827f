/-! ONE INSTRUCTION. -/
def y_call (virt rk c rt k cc : Nat) (al : List YV × YStk) (pc : Nat) (e : YE) (loc : YLoc) (m : YM) : Option YN :=
  y_cc (Nat.ble (y_cat al.2) 8 && Nat.beq cc 0) (match virt with
    | 0 => some (.inr (.inl (c, rt, k, al.1, pc, e, loc, al.2, m)))
    | _ => (match al.1 with
      | .inr (.inr q) :: l => y_cc (Nat.beq q.1 rk && y_nn e q.2.1) (some (.inr (.inl (c, rt, k, yR rk (yc 0) q.2.2.1 q.2.2.2 :: l, pc, e, loc, al.2, m))))
      | _ => none))
def y_inv2 (x : List Nat) (st : YStk) (pc : Nat) (e : YE) (loc : YLoc) (m : YM) : Option YN := match x with
  | [c, na, virt, rk, rt, k, cc, _] => (match y_split na st [] with
      | some al => y_call virt rk c rt k cc al pc e loc m
      | none => none)
  | _ => none
def y_bl (e : YE) (a : YI) : Bool := match y_bd e a with | some p => decide (0 ≤ p.1) && decide (p.2 ≤ 1) | none => false
/-- a place of a row -/
def y_in (e : YE) (j : YI) (n : Nat) : Bool := match y_bd e j with | some p => z_vin p n | none => false
section YS2
variable {X : LMem → Prop} {W : List YW} {s0 : LMem} {bc bs : Nat} {ρ : List Int} {e : YE} {loc : YLoc} {L : LLoc} {st r : YStk} {S R : LStk} {m : YM} {s : LMem} {zn : YN} {pc : Nat}
theorem y_bl_ok {a : YI} {x : Int32} (hE : y_E ρ e) (hx : y_is ρ a x.toInt) (h : y_bl e a = true) : x = 0 ∨ x = 1 := by
  unfold y_bl at h
  cases h1 : y_bd e a with
  | none => rw [h1] at h; cases h
  | some p =>
    rw [h1] at h
    exact z_bl_ok (a := p) (y_bd_ok hE hx h1) h
theorem y_in_ok {j : YI} {x : Int32} {n : Nat} (hE : y_E ρ e) (hx : y_is ρ j x.toInt) (h : y_in e j n = true) : qa_vin x n ∧ y_is ρ j (x.toNatClampNeg : Int) := by
  unfold y_in at h
  cases h1 : y_bd e j with
  | none => rw [h1] at h; cases h
  | some p =>
    rw [h1] at h
    have hb := y_bd_ok hE hx h1
    refine ⟨z_vin_ok (a := p) hb h, ?_⟩
    obtain ⟨g1, g2⟩ := qa_and h
    have g1 := of_decide_eq_true g1
    have e1 : (x.toNatClampNeg : Int) = x.toInt := by
      show (x.toInt.toNat : Int) = x.toInt
      omega
    rw [e1]
    exact hx
theorem y_if_rel {b : Bool} {nx : LNx} (h1 : b = true) (h : y_rel X W s0 bc bs ρ zn nx) : y_rel X W s0 bc bs ρ zn (qa_if b s nx) := by
  rw [h1]
  exact h
theorem y_call_ok {virt rk c rt k cc cs : Nat} {al : List YV × YStk} {Al : List LV × LStk} (hE : y_E ρ e) (ha : y_s ρ al.1 Al.1) (hr : y_s ρ al.2 Al.2) (hl : y_l ρ loc L) (hm : y_K X W s0 ρ m s) (h : y_call virt rk c rt k cc al pc e loc m = some zn) : y_rel X W s0 bc bs ρ zn (qa_call virt rk c rt k cc cs Al bc bs pc L s) := by
  obtain ⟨h1, h2⟩ := y_cc_ok h
  obtain ⟨h0, h1⟩ := qa_and h1
  rw [y_cat_eq hr] at h0
  have h1 := qa_beq h1
  subst h1
  refine y_if_rel h0 ?_
  cases virt with
  | zero =>
    cases h2
    exact ⟨trivial, Al.1, L, Al.2, s, rfl, hE, ha, hl, hr, hm⟩
  | succ v =>
    obtain ⟨al1, al2⟩ := al
    obtain ⟨Al1, Al2⟩ := Al
    rcases al1 with _ | ⟨a | a | q, l⟩
    · cases h2
    · cases h2
    · cases h2
    · rcases Al1 with _ | ⟨u | u | ⟨k', o⟩, R1⟩
      · exact ha.elim
      · exact ha.1.elim
      · exact ha.1.elim
      · obtain ⟨⟨q1, q2⟩, hrest⟩ := ha
        have q1 : q.1 = k' := q1
        subst q1
        obtain ⟨h4, h5⟩ := y_cc_ok h2
        obtain ⟨h4, h6⟩ := qa_and h4
        obtain ⟨i, rfl, g1, g2⟩ := y_nn_ok hE q2 h6
        refine y_if_rel h4 ?_
        cases h5
        exact ⟨trivial, lR rk (some i) :: R1, L, Al2, s, rfl, hE, ⟨⟨rfl, y_rv_c hE g1 g2⟩, hrest⟩, hl, hr, hm⟩
theorem y_inv2_ok {x : List Nat} (hE : y_E ρ e) (hl : y_l ρ loc L) (hs : y_s ρ st S) (hm : y_K X W s0 ρ m s) (h : y_inv2 x st pc e loc m = some zn) : y_rel X W s0 bc bs ρ zn (qa_inv2 x S bc bs pc L s) := by
  rcases x with _ | ⟨c, _ | ⟨na, _ | ⟨virt, _ | ⟨rk, _ | ⟨rt, _ | ⟨k, _ | ⟨cc, _ | ⟨cs, _ | ⟨y, x⟩⟩⟩⟩⟩⟩⟩⟩⟩
  iterate 8 cases h
  · have h : (match y_split na st [] with | some al => y_call virt rk c rt k cc al pc e loc m | none => none) = some zn := h
    cases e1 : y_split na st [] with
    | none => rw [e1] at h; cases h
    | some al =>
      rw [e1] at h
      obtain ⟨Al, Rr, e2, h2, h3⟩ := y_split_ok (acc := []) (Acc := []) hs trivial e1
      show y_rel X W s0 bc bs ρ zn (match qa_split na S [] with | some al => qa_call virt rk c rt k cc cs al bc bs pc L s | none => qa_no s)
      rw [e2]
      exact y_call_ok (Al := (Al, Rr)) hE h2 h3 hl hm h
  · cases h
end YS2
/-- static calls: the five of Math; the others -/
def y_mth (st : YStk) (f : YE → YI → YI → YQ) (pc : Nat) (e : YE) (loc : YLoc) (m : YM) : Option YN := y1I st fun b r => y1I r fun a r => y_cc (Nat.ble (y_cat r) 8) (y_ps (f e a b) (pc + 3) e loc r m)
def y_mthL (st : YStk) (pc : Nat) (e : YE) (loc : YLoc) (m : YM) : Option YN := y1L st fun _ r => y1L r fun _ r => y_cc (Nat.ble (y_cat r) 8) (y_go (pc + 3) e loc (yL none :: r) m)
def y_stat (x : List Nat) (st : YStk) (pc : Nat) (e : YE) (loc : YLoc) (m : YM) : Option YN := match Nat.ble 1000 (qa_get x 0) && Nat.ble (qa_get x 0) 1004 with
  | true => (match qa_get x 0 - 1000 with
    | 0 => y_mth st y_mx pc e loc m
    | 1 => y_mth st y_mi pc e loc m
    | 2 => y1I st fun _ r => y_cc (Nat.ble (y_cat r) 8) (y_ps y_tp (pc + 3) e loc r m)
    | 3 => y_mthL st pc e loc m
    | _ => y_mthL st pc e loc m)
  | false => y_inv2 x st (pc + 3) e loc m
section YS3
variable {X : LMem → Prop} {W : List YW} {s0 : LMem} {bc bs : Nat} {ρ : List Int} {e : YE} {loc : YLoc} {L : LLoc} {st r : YStk} {S R : LStk} {m : YM} {s : LMem} {zn : YN} {pc : Nat}
theorem y_mth_ok {g : Int32 → Int32 → Int32} {f : YE → YI → YI → YQ} (hf : ∀ a b (x y : Int32), y_is ρ a x.toInt → y_is ρ b y.toInt → y_q ρ (f e a b) (g x y).toInt) (hE : y_E ρ e) (hl : y_l ρ loc L) (hs : y_s ρ st S) (hm : y_K X W s0 ρ m s) (h : y_mth st f pc e loc m = some zn) : y_rel X W s0 bc bs ρ zn (qa_s2I s S fun b a r => qa_if (Nat.ble (qa_cat r) 8) s (qa_go bc bs (pc + 3) L (lI (g a b) :: r) s)) := by
  rw [z_s2I_eq]
  exact y1I_ok hs h fun b y r R hb hr h => y1I_ok hr h fun a x r R ha hr h => y_if_rel (by rw [← y_cat_eq hr]; exact (y_cc_ok h).1) (y_ps_ok (y_cc_ok h).2 hE (hf a b x y ha hb) hl hr hm)
theorem y_mthL_ok {g : Int64 → Int64 → Int64} (hE : y_E ρ e) (hl : y_l ρ loc L) (hs : y_s ρ st S) (hm : y_K X W s0 ρ m s) (h : y_mthL st pc e loc m = some zn) : y_rel X W s0 bc bs ρ zn (qa_s2L s S fun b a r => qa_if (Nat.ble (qa_cat r) 8) s (qa_go bc bs (pc + 3) L (lL (g a b) :: r) s)) := by
  rw [z_s2L_eq]
  exact y1L_ok hs h fun b y r R hb hr h => y1L_ok hr h fun a x r R ha hr h => y_if_rel (by rw [← y_cat_eq hr]; exact (y_cc_ok h).1) (y_go_ok (y_cc_ok h).2 hE hl ⟨(fun _ q => nomatch q), hr⟩ hm)
theorem y_stat_ok {mi i : Nat} {x : List Nat} {v : Int32} {w : Int64} (hE : y_E ρ e) (hl : y_l ρ loc L) (hs : y_s ρ st S) (hm : y_K X W s0 ρ m s) (h : y_stat x st pc e loc m = some zn) : y_rel X W s0 bc bs ρ zn (qa_ins false mi bc bs (.invokestatic i, x, v, w) pc L S s) := by
  unfold y_stat at h
  unfold qa_ins
  dsimp only
  split
  · rename_i e0
    rw [e0] at h
    exact y_mth_ok (g := qa_max) (fun a b x y ha hb => y_mx_ok hE ha hb) hE hl hs hm h
  · rename_i e0
    rw [e0] at h
    exact y_mth_ok (g := qa_min) (fun a b x y ha hb => y_mi_ok hE ha hb) hE hl hs hm h
  · rename_i e0
    rw [e0] at h
    have h : y1I st (fun _ r => y_cc (Nat.ble (y_cat r) 8) (y_ps y_tp (pc + 3) e loc r m)) = some zn := h
    exact y1I_ok hs h fun a x r R ha hr h => y_if_rel (by rw [← y_cat_eq hr]; exact (y_cc_ok h).1) (y_ps_ok (y_cc_ok h).2 hE (y_tp_ok _) hl hr hm)
  · rename_i e0
    rw [e0] at h
    exact y_mthL_ok (g := qa_maxL) hE hl hs hm h
  · rename_i e0
    rw [e0] at h
    exact y_mthL_ok (g := qa_minL) hE hl hs hm h
  · rename_i e0 e1 e2 e3 e4
    cases hb : (Nat.ble 1000 (qa_get x 0) && Nat.ble (qa_get x 0) 1004) with
    | true =>
      obtain ⟨q1, q2⟩ := qa_and hb
      have q1 := Nat.le_of_ble_eq_true q1
      have q2 := Nat.le_of_ble_eq_true q2
      exfalso
      rcases (show qa_get x 0 = 1000 ∨ qa_get x 0 = 1001 ∨ qa_get x 0 = 1002 ∨ qa_get x 0 = 1003 ∨ qa_get x 0 = 1004 by omega) with e | e | e | e | e
      · exact e0 e
      · exact e1 e
      · exact e2 e
      · exact e3 e
      · exact e4 e
    | false =>
      rw [hb] at h
      exact y_inv2_ok hE hl hs hm h
end YS3
/-- to where a compare with null goes: null, not null -/
def y_nl (e : YE) (q : YR) (t n : Nat) : List (Nat × YE) := y_lo2 (y_dn e q.2.1 1) t ++ y_lo2 (y_th (y_up e q.2.1 0) fun e => y_up e q.2.2.1 q.2.2.2) n
theorem y_nl_ok {X : LMem → Prop} {W : List YW} {s0 : LMem} {bc bs : Nat} {ρ : List Int} {e : YE} {loc : YLoc} {L : LLoc} {r : YStk} {R : LStk} {m : YM} {s : LMem} {zn : YN} {q : YR} {o : Option Nat} {t n : Nat} (hE : y_E ρ e) (hv : y_rv ρ q.2.1 q.2.2.1 q.2.2.2 o) (hl : y_l ρ loc L) (hs : y_s ρ r R) (hm : y_K X W s0 ρ m s) (h : y_br (y_nl e q t n) loc r m = some zn) : y_rel X W s0 bc bs ρ zn (qa_nl o t n bc bs L R s) := by
  cases h
  intro X' C Q hX
  have go : ∀ p, p ∈ y_nl e q t n → y_E ρ p.2 → X' bc bs p.1 L R s := fun p hp hE => hX (p.1, p.2, loc, r, m) (List.mem_map.mpr ⟨p, hp, rfl⟩) ρ _ _ _ (y_le_rf ρ) hE hl hs hm
  rcases hv with ⟨h1, rfl⟩ | ⟨h1, i, rfl, h2, h3⟩
  · obtain ⟨e', g1, g2⟩ := y_dn_ok (u := 1) hE h1 (Int.le_refl 1)
    refine go (t, e') ?_ g2
    unfold y_nl
    rw [g1]
    exact List.mem_cons_self
  · obtain ⟨e', g1, g2⟩ := y_th_ok (K := fun e => y_up e q.2.2.1 q.2.2.2) (y_up_ok (u := 0) hE h1 (Int.le_refl 0)) (fun e' he => y_up_ok he h2 h3)
    refine go (n, e') ?_ g2
    unfold y_nl
    rw [g1]
    exact List.mem_append_right _ List.mem_cons_self
/-- a place of a row that never changes -/
def y_stq (k : Nat) (j : YI) : YQ := match Nat.beq j.1 0 with | true => .inl (yc (qa_stc k j.2.toNat).toInt) | false => y_tp
theorem y_stq_ok {ρ : List Int} {e : YE} {k : Nat} {j : YI} {x : Int32} (hE : y_E ρ e) (hj : y_is ρ j x.toInt) : y_q ρ (y_stq k j) (qa_stc k x.toNatClampNeg).toInt := by
  unfold y_stq
  cases h : Nat.beq j.1 0 with
  | false => exact y_tp_ok _
  | true =>
    have h1 := y_is_0 hE hj h
    have h2 : x.toNatClampNeg = j.2.toNat := by
      show x.toInt.toNat = j.2.toNat
      rw [h1]
    rw [h2]
    exact y_is_c hE _
def qy_1 (W : List YW) (mi : Nat) (en : LEnt) (pc : Nat) (e : YE) (loc : YLoc) (st : YStk) (m : YM) : Option YN := match en with
  | (ins, x, v, w) => match ins with
  | .aconst_null => y_go (pc + 1) e loc (yR 0 (yc 1) (yc 0) 0 :: st) m
  | .iconst _ => y_go (pc + 1) e loc (yI (yc v.toInt) :: st) m
  | .bipush _ => y_go (pc + 2) e loc (yI (yc v.toInt) :: st) m
  | .sipush _ => y_go (pc + 3) e loc (yI (yc v.toInt) :: st) m
  | .ldc _ => (match x with | [] => y_go (pc + 2) e loc (yI (yc v.toInt) :: st) m | t :: _ => y_go (pc + 2) e loc (yR 64 (yc 0) (yc (t : Int)) (t : Int) :: st) m)
  | .ldc_w _ => y_go (pc + 3) e loc (yI (yc v.toInt) :: st) m
  | .lconst _ => y_go (pc + 1) e loc (yL (some w) :: st) m
  | .ldc2_w _ => y_go (pc + 3) e loc (yL (some w) :: st) m
  | .iload_n n => yldI loc n.val fun a => y_go (pc + 1) e loc (yI a :: st) m
  | .iload n => yldI loc n fun a => y_go (pc + 2) e loc (yI a :: st) m
  | .lload_n n => yldL loc n.val fun a => y_go (pc + 1) e loc (yL a :: st) m
  | .lload n => yldL loc n fun a => y_go (pc + 2) e loc (yL a :: st) m
  | .aload_n n => yldR loc n.val fun q => y_go (pc + 1) e loc (.inr (.inr q) :: st) m
  | .aload n => yldR loc n fun q => y_go (pc + 2) e loc (.inr (.inr q) :: st) m
  | .istore_n n => y1I st fun a r => y_go (pc + 1) e (y_st1 loc n.val (yI a)) r m
  | .istore n => y1I st fun a r => y_go (pc + 2) e (y_st1 loc n (yI a)) r m
  | .lstore_n n => y1L st fun a r => y_go (pc + 1) e (y_clr (y_st1 loc n.val (yL a)) (n.val + 1)) r m
  | .lstore n => y1L st fun a r => y_go (pc + 2) e (y_clr (y_st1 loc n (yL a)) (n + 1)) r m
  | .astore_n n => y1R st fun q r => y_go (pc + 1) e (y_st1 loc n.val (.inr (.inr q))) r m
  | .astore n => y1R st fun q r => y_go (pc + 2) e (y_st1 loc n (.inr (.inr q))) r m
  | .iinc n _ => yldI loc n fun a => y_go (pc + 3) (y_nm (y_add e a (yc v.toInt)) e).2 (y_st1 loc n (yI (y_nm (y_add e a (yc v.toInt)) e).1)) st m
  | .iadd => y1I st fun b r => y1I r fun a r => y_ps (y_add e a b) (pc + 1) e loc r m
  | .isub => y1I st fun b r => y1I r fun a r => y_ps (y_sub e a b) (pc + 1) e loc r m
  | .imul => y1I st fun b r => y1I r fun a r => y_ps (y_mul e a b) (pc + 1) e loc r m
  | .ishl => y1I st fun b r => y1I r fun a r => y_ps (y_sl e a b) (pc + 1) e loc r m
  | .ishr => y1I st fun b r => y1I r fun a r => y_ps (y_sr e a b) (pc + 1) e loc r m
  | .iushr => y1I st fun _ r => y1I r fun _ r => y_ps y_tp (pc + 1) e loc r m
  | .iand => y1I st fun b r => y1I r fun a r => y_ps (y_an e a b) (pc + 1) e loc r m
  | .ior => y1I st fun b r => y1I r fun a r => y_ps (y_ox e a b) (pc + 1) e loc r m
  | .ixor => y1I st fun b r => y1I r fun a r => y_ps (y_ox e a b) (pc + 1) e loc r m
  | .idiv => y1I st fun b r => y1I r fun a r => (match y_bd e b with | some q => y_cc (z_nz q) (y_ps (y_dv e a b) (pc + 1) e loc r m) | none => none)
  | .irem => y1I st fun b r => y1I r fun a r => (match y_bd e b with | some q => y_cc (z_nz q) (y_ps (y_rm e a b) (pc + 1) e loc r m) | none => none)
  | .ineg => y1I st fun a r => y_ps (y_ng e a) (pc + 1) e loc r m
  | .ladd => y1L st fun b r => y1L r fun a r => y_go (pc + 1) e loc (yL (z_opL (fun a b => a + b) a b) :: r) m
  | .lsub => y1L st fun b r => y1L r fun a r => y_go (pc + 1) e loc (yL (z_opL (fun a b => a - b) a b) :: r) m
  | .lmul => y1L st fun b r => y1L r fun a r => y_go (pc + 1) e loc (yL (z_opL (fun a b => a * b) a b) :: r) m
  | .land => y1L st fun b r => y1L r fun a r => y_go (pc + 1) e loc (yL (z_opL (fun a b => a &&& b) a b) :: r) m
  | .lor => y1L st fun b r => y1L r fun a r => y_go (pc + 1) e loc (yL (z_opL (fun a b => a ||| b) a b) :: r) m
  | .ldiv => y1L st fun b r => y1L r fun a r => y_cc (z_nzL b) (y_go (pc + 1) e loc (yL (z_opL (fun a b => a / b) a b) :: r) m)
  | .lrem => y1L st fun b r => y1L r fun a r => y_cc (z_nzL b) (y_go (pc + 1) e loc (yL (z_opL (fun a b => a - a / b * b) a b) :: r) m)
  | .lshl => y1I st fun _ r => y1L r fun _ r => y_go (pc + 1) e loc (yL none :: r) m
  | .lushr => y1I st fun _ r => y1L r fun _ r => y_go (pc + 1) e loc (yL none :: r) m
  | .lcmp => y1L st fun b r => y1L r fun a r => y_ps (.inr (z_cmpL lg_cmp a b)) (pc + 1) e loc r m
  | .i2l => y1I st fun a r => y_go (pc + 1) e loc (yL (match Nat.beq a.1 0 with | true => some (Int32.ofInt a.2).toInt64 | false => none) :: r) m
  | .l2i => y1L st fun a r => y_ps (.inr (z_l2i a)) (pc + 1) e loc r m
  | .i2c => y1I st fun a r => y_ps (y_i2c e a) (pc + 1) e loc r m
  | .dup => (match st with | u :: r => y_cc (!y_isL u) (y_go (pc + 1) e loc (u :: u :: r) m) | _ => none)
  | .pop => (match st with | u :: r => y_cc (!y_isL u) (y_go (pc + 1) e loc r m) | _ => none)
  | .dup2 => (match st with | u :: u2 :: r => y_cc (!y_isL u && !y_isL u2) (y_go (pc + 1) e loc (u :: u2 :: u :: u2 :: r) m) | _ => none)
  | .goto _ => y_go (qa_get x 0) e loc st m
  | .ifCond c _ => y1I st fun a r => y_br (y_cnl c e a (yc 0) (qa_get x 0) (pc + 3)) loc r m
  | .if_icmp c _ => y1I st fun b r => y1I r fun a r => y_br (y_cnl c e a b (qa_get x 0) (pc + 3)) loc r m
  | .ifnull _ => y1R st fun q r => y_br (y_nl e q (qa_get x 0) (pc + 3)) loc r m
  | .ifnonnull _ => y1R st fun q r => y_br (y_nl e q (pc + 3) (qa_get x 0)) loc r m
  | .tableswitch _ _ _ _ => y1I st fun a r => y_br (y_swl e a (qa_swt mi pc).1 (qa_swt mi pc).2) loc r m
  | .lookupswitch _ _ => y1I st fun a r => y_br (y_swl e a (qa_swt mi pc).1 (qa_swt mi pc).2) loc r m
  | .iaload => y1I st fun j r => y1R r fun q r => (match Nat.blt q.1 60 with
      | true => y_cc (Nat.beq (qa_ea q.1) 0 && (y_in e j (qa_len q.1) && y_nn e q.2.1)) (y_gI e m q.1 q.2.2.1 j fun v e m => y_go (pc + 1) e loc (v :: r) m)
      | false => y_cc (!(Nat.beq q.1 65) && (Nat.blt q.1 64 && (y_in e j (qa_len q.1) && y_nn e q.2.1))) (y_ps (y_stq q.1 j) (pc + 1) e loc r m))
  | .aaload => y1I st fun j r => y1R r fun q r => y_cc ((Nat.blt q.1 60 && Nat.beq (qa_ea q.1) 3) && (y_in e j (qa_len q.1) && y_nn e q.2.1)) (y_aR e q.1 q.2.2.1 j fun v e => y_go (pc + 1) e loc (v :: r) m)
  | .iastore => y1I st fun u r => y1I r fun j r => y1R r fun q r => y_cc ((Nat.blt q.1 60 && Nat.beq (qa_ea q.1) 0) && (y_in e j (qa_len q.1) && y_nn e q.2.1)) (y_stI W e m q.1 q.2.2.1 j u fun m => y_go (pc + 1) e loc r m)
  | .arraylength => y1R st fun q r => y_cc (!(Nat.beq q.1 65) && ((Nat.blt q.1 64 && Nat.blt (qa_ea q.1) 9) && y_nn e q.2.1)) (y_go (pc + 1) e loc (yI (yc (qa_leI q.1).toInt) :: r) m)
  | .getfield _ => y1R st fun q r => y_cc (Nat.beq q.1 (qa_get x 0) && y_nn e q.2.1) (y_rdV e m q.1 q.2.2.1 (qa_get x 1) fun v e m => y_go (pc + 3) e loc (v :: r) m)
  | .putfield _ => (match qa_tg (qa_get x 0) (qa_get x 1) with
      | 0 => y1I st fun a r => y1R r fun q r => y_cc (Nat.beq q.1 (qa_get x 0) && y_nn e q.2.1) (y_stI W e m q.1 q.2.2.1 (yc (qa_get x 1 : Int)) a fun m => y_go (pc + 3) e loc r m)
      | 1 => y1I st fun a r => y1R r fun q r => y_cc (Nat.beq q.1 (qa_get x 0) && (y_nn e q.2.1 && y_bl e a)) (y_stI W e m q.1 q.2.2.1 (yc (qa_get x 1 : Int)) a fun m => y_go (pc + 3) e loc r m)
      | 2 => y1L st fun _ r => y1R r fun q r => y_cc (Nat.beq q.1 (qa_get x 0) && y_nn e q.2.1) (y_stL W e q.1 q.2.2.1 (qa_get x 1) (y_go (pc + 3) e loc r m))
      | _ => y1R st fun a r => y1R r fun q r => y_cc (Nat.beq q.1 (qa_get x 0) && y_nn e q.2.1) (y_stR W e m q.1 q.2.2.1 (qa_get x 1) a fun m => y_go (pc + 3) e loc r m))
  | .getstatic _ => y_go (pc + 3) e loc (yR (qa_get x 0) (yc 0) (yc 0) 0 :: st) m
  | .invokevirtual _ => y_inv2 x st (pc + 3) e loc m
  | .invokestatic _ => y_stat x st pc e loc m
  | .ireturn => (match st with | [.inl a] => (match qa_get x 0 with | 0 => some (.inr (.inr (some (yI a), e, m))) | _ => y_cc (y_bl e a) (some (.inr (.inr (some (yI a), e, m))))) | _ => none)
  | .lreturn => (match st with | [.inr (.inl a)] => some (.inr (.inr (some (yL a), e, m))) | _ => none)
  | .areturn => (match st with | [.inr (.inr q)] => y_cc (Nat.beq q.1 (qa_get x 0) || y_sn e q.2.1) (some (.inr (.inr (some (yR (qa_get x 0) q.2.1 q.2.2.1 q.2.2.2), e, m)))) | _ => none)
  | .return_ => (match st with | [] => some (.inr (.inr (none, e, m))) | _ => none)
  | _ => none
theorem y_sRR_eq {s : LMem} {S : LStk} {K : Nat → Option Nat → Nat → Option Nat → LStk → LNx} : qa_sRR s S K = qa_s1R s S fun k' o' r => qa_s1R s r fun k o r => K k' o' k o r := by
  rcases S with _ | ⟨_ | _ | ⟨_, _⟩, _ | ⟨_ | _ | ⟨_, _⟩, R⟩⟩ <;> rfl
