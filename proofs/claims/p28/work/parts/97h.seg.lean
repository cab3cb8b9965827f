/-! THE CHECKER ONCE MORE: places V that instructions write, places W that calls may write; segments. -/
def y_clv (X : LMem → Prop) (V : List YW) : Prop := (∀ s k i j x, y_iW V k i j → ¬ y_pr k j → X s → X (sI s k i j x)) ∧ (∀ s k i j x, y_iW V k i j → X s → X (sL s k i j x)) ∧ (∀ s k i j x, y_iW V k i j → X s → X (sR s k i j x))
theorem y_cl_v {X : LMem → Prop} (hX : y_cl X) (V : List YW) : y_clv X V := ⟨fun s k i j x _ hn h => hX s _ (fun k' i' j' hp => by
  rw [gI_sI, if_neg (fun q => hn (by rw [← q.1, ← q.2.2]; exact hp))]) h, fun s k i j x _ h => hX s _ (fun _ _ _ _ => rfl) h, fun s k i j x _ h => hX s _ (fun _ _ _ _ => rfl) h⟩
theorem y_sP_ok {k j : Nat} {q : ZI} (hj : q.1 ≤ (j : Int) ∧ (j : Int) ≤ q.2) (h : y_sP k q = true) : ¬ y_pr k j := by
  rintro ⟨r, hr, g1, g2⟩
  rcases (Bool.or_eq_true _ _).mp (List.all_eq_true.mp h r hr) with g | g <;> (have g := of_decide_eq_true g; omega)
theorem y_J_sIv {X : LMem → Prop} {V : List YW} (hX : y_clv X V) {s : LMem} {k i j : Nat} {x : Int32} {q v : ZI} (hw : y_iW V k i j) (hJ : y_J X s) (hj : q.1 ≤ (j : Int) ∧ (j : Int) ≤ q.2) (hv : v.1 ≤ x.toInt ∧ x.toInt ≤ v.2) (h1 : y_sB k q v = true) (h2 : y_sP k q = true) : y_J X (sI s k i j x) := by
  obtain ⟨j1, j2, j3⟩ := hJ
  refine ⟨y_JB_sI j1 fun r hr g1 g2 => ?_, j2, hX.1 s k i j x hw (y_sP_ok hj h2) j3⟩
  rcases (Bool.or_eq_true _ _).mp (List.all_eq_true.mp h1 r hr) with g | g
  · rcases (Bool.or_eq_true _ _).mp g with g | g <;> (have g := of_decide_eq_true g; omega)
  · obtain ⟨g3, g4⟩ := qa_and g
    have g3 := of_decide_eq_true g3
    have g4 := of_decide_eq_true g4
    omega
section YSV
variable {X : LMem → Prop} {W V : List YW} {s0 : LMem} {bc bs : Nat} {ρ : List Int} {e : YE} {loc : YLoc} {L : LLoc} {st r : YStk} {S R : LStk} {m : YM} {s : LMem} {zn : YN} {pc : Nat}
theorem y_stI_okv (hX : y_clv X V) (hVW : ∀ k i j, y_iW V k i j → y_iW W k i j) {k i' j' : Nat} {i j a : YI} {x : Int32} {K : YM → Option YN} {nx : LNx} (h : y_stI V e m k i j a K = some zn) (hE : y_E ρ e) (hi : y_is ρ i (i' : Int)) (hj : y_is ρ j (j' : Int)) (ha : y_is ρ a x.toInt) (hm : y_K X W s0 ρ m s)
    (hK : ∀ m', y_K X W s0 ρ m' (sI s k i' j' x) → K m' = some zn → y_rel X W s0 bc bs ρ zn nx) : y_rel X W s0 bc bs ρ zn nx := by
  unfold y_stI at h
  cases h1 : y_bd e i with
  | none => rw [h1] at h; cases h
  | some p => cases h2 : y_bd e j with
    | none => rw [h1, h2] at h; cases h
    | some q => cases h3 : y_bd e a with
      | none => rw [h1, h2, h3] at h; cases h
      | some v =>
        rw [h1, h2, h3] at h
        obtain ⟨h4, h5⟩ := y_cc_ok h
        obtain ⟨h6, h7⟩ := qa_and h4
        obtain ⟨h7, h8⟩ := qa_and h7
        have bj := y_bd_ok hE hj h2
        refine hK _ ⟨fun f hf => ?_, y_J_sIv hX (y_inS_ok h6 (y_bd_ok hE hi h1) bj) hm.2.1 bj (y_bd_ok hE ha h3) h7 h8, y_Fr_sI hm.2.2 (hVW _ _ _ (y_inS_ok h6 (y_bd_ok hE hi h1) bj))⟩ h5
        rcases List.mem_cons.mp hf with rfl | hf
        · refine ⟨i', j', hi, hj, ?_⟩
          show y_is ρ a (gI (sI s k i' j' x) k i' j').toInt
          rw [gI_sI, if_pos ⟨rfl, rfl, rfl⟩]
          exact ha
        · refine y_kp_ok (s := s) (s' := sI s k i' j' x) hE hm.1 hi hj (fun k2 i2 j2 hn => ⟨?_, rfl⟩) f hf
          rw [gI_sI, if_neg hn]
theorem y_stL_okv (hVW : ∀ k i j, y_iW V k i j → y_iW W k i j) {k i' j : Nat} {i : YI} {x : Int64} {K : Option YN} {nx : LNx} (h : y_stL V e k i j K = some zn) (hE : y_E ρ e) (hi : y_is ρ i (i' : Int)) (hm : y_K X W s0 ρ m s) (hX : y_clv X V)
    (hK : y_K X W s0 ρ m (sL s k i' j x) → K = some zn → y_rel X W s0 bc bs ρ zn nx) : y_rel X W s0 bc bs ρ zn nx := by
  unfold y_stL at h
  cases h1 : y_bd e i with
  | none => rw [h1] at h; cases h
  | some p =>
    rw [h1] at h
    obtain ⟨h4, h5⟩ := y_cc_ok h
    exact hK ⟨hm.1, ⟨hm.2.1.1, hm.2.1.2.1, hX.2.1 s k i' j x (y_inS_ok h4 (y_bd_ok hE hi h1) ⟨Int.le_refl _, Int.le_refl _⟩) hm.2.1.2.2⟩, y_Fr_sL hm.2.2 (hVW _ _ _ (y_inS_ok h4 (y_bd_ok hE hi h1) ⟨Int.le_refl _, Int.le_refl _⟩))⟩ h5
theorem y_stR_okv (hVW : ∀ k i j, y_iW V k i j → y_iW W k i j) {k i' j : Nat} {i : YI} {v : YR} {o : Option Nat} {K : YM → Option YN} {nx : LNx} (h : y_stR V e m k i j v K = some zn) (hE : y_E ρ e) (hi : y_is ρ i (i' : Int)) (hv : y_rv ρ v.2.1 v.2.2.1 v.2.2.2 o) (hm : y_K X W s0 ρ m s) (hX : y_clv X V)
    (hK : ∀ m', (Nat.beq v.1 (qa_tk k j) || qa_nul o) = true → Nat.beq (qa_fm k j) 0 = true → y_K X W s0 ρ m' (sR s k i' j o) → K m' = some zn → y_rel X W s0 bc bs ρ zn nx) : y_rel X W s0 bc bs ρ zn nx := by
  unfold y_stR at h
  cases h1 : y_bd e i with
  | none => rw [h1] at h; cases h
  | some p =>
    rw [h1] at h
    obtain ⟨h4, h5⟩ := y_cc_ok h
    obtain ⟨h6, h7⟩ := qa_and h4
    obtain ⟨h7, h8⟩ := qa_and h7
    obtain ⟨q1, q2⟩ := qa_and h6
    have q1 := qa_beq q1
    subst q1
    have htk : qa_tk 17 j = 8 ∧ qa_fm 17 j = 0 ∧ j ≠ 4 := by
      rcases (Bool.or_eq_true _ _).mp q2 with q2 | q2 <;> (have q2 := qa_beq q2; subst q2; exact ⟨rfl, rfl, by decide⟩)
    obtain ⟨t1, t2, t3⟩ := htk
    have ho : (Nat.beq v.1 8 || qa_nul o) = true ∧ ∀ t, o = some t → t ≤ 6 := by
      rcases (Bool.or_eq_true _ _).mp h8 with h8 | h8
      · obtain ⟨g1, g2⟩ := qa_and h8
        have g2 := of_decide_eq_true g2
        refine ⟨by rw [g1]; rfl, fun t ht => ?_⟩
        rcases hv with ⟨_, u2⟩ | ⟨_, t2, u2, _, u4⟩
        · rw [u2] at ht; cases ht
        · rw [u2] at ht
          cases ht
          omega
      · have := y_sn_ok hE hv h8
        subst this
        exact ⟨by simp [qa_nul], fun t ht => by cases ht⟩
    refine hK _ (by rw [t1]; exact ho.1) (by rw [t2]; rfl) ⟨?_, ⟨hm.2.1.1, ?_, hX.2.2 s 17 i' j o (y_inS_ok h7 (y_bd_ok hE hi h1) ⟨Int.le_refl _, Int.le_refl _⟩) hm.2.1.2.2⟩, y_Fr_sR hm.2.2 (hVW _ _ _ (y_inS_ok h7 (y_bd_ok hE hi h1) ⟨Int.le_refl _, Int.le_refl _⟩))⟩ h5
    · exact y_kp_ok (s := s) hE hm.1 hi (y_is_c hE (j : Int)) (fun k2 i2 j2 hn => ⟨rfl, by rw [gR_sR, if_neg hn]⟩)
    · obtain ⟨r1, r2, r3, r4⟩ := hm.2.1.2.1
      refine ⟨fun i2 q hq => ?_, fun i2 q hq => ?_, fun i2 q hq => ?_, fun i2 q hq => ?_⟩
      · rw [gR_sR, if_neg (fun c => t3 c.2.2.symm)] at hq
        exact r1 i2 q hq
      · rw [gR_sR] at hq
        split at hq
        · exact ho.2 q hq
        · exact r2 i2 q hq
      · rw [gR_sR] at hq
        split at hq
        · exact ho.2 q hq
        · exact r3 i2 q hq
      · rw [gR_sR, if_neg (fun c => absurd c.1 (by decide))] at hq
        exact r4 i2 q hq
end YSV
set_option maxHeartbeats 4000000 in
theorem qy_1_okv {X : LMem → Prop} {W V : List YW} {s0 : LMem} {mi bc bs pc : Nat} {ρ : List Int} {en : LEnt} {e : YE} {loc : YLoc} {L : LLoc} {st : YStk} {S : LStk} {m : YM} {s : LMem} {zn : YN} (hX : y_clv X V) (hVW : ∀ k i j, y_iW V k i j → y_iW W k i j) (hE : y_E ρ e) (hl : y_l ρ loc L) (hs : y_s ρ st S) (hm : y_K X W s0 ρ m s) (h : qy_1 V mi en pc e loc st m = some zn) : y_rel X W s0 bc bs ρ zn (qa_ins false mi bc bs en pc L S s) := by
  obtain ⟨ins, x, v, w⟩ := en
  cases ins with
  | aconst_null =>
    exact y_go_ok h hE hl ⟨⟨rfl, Or.inl ⟨y_is_c hE 1, rfl⟩⟩, hs⟩ hm
  | iconst y0 =>
    exact y_go_ok h hE hl ⟨y_is_c hE v.toInt, hs⟩ hm
  | bipush y0 =>
    exact y_go_ok h hE hl ⟨y_is_c hE v.toInt, hs⟩ hm
  | sipush y0 =>
    exact y_go_ok h hE hl ⟨y_is_c hE v.toInt, hs⟩ hm
  | ldc y0 =>
    cases x with
    | nil => exact y_go_ok h hE hl ⟨y_is_c hE v.toInt, hs⟩ hm
    | cons t x => exact y_go_ok h hE hl ⟨⟨rfl, y_rv_c (i := t) hE (y_is_c hE (t : Int)) (Int.le_refl _)⟩, hs⟩ hm
  | ldc_w y0 =>
    exact y_go_ok h hE hl ⟨y_is_c hE v.toInt, hs⟩ hm
  | lconst y0 =>
    exact y_go_ok h hE hl ⟨fun _ e => (Option.some.inj e).symm, hs⟩ hm
  | ldc2_w y0 =>
    exact y_go_ok h hE hl ⟨fun _ e => (Option.some.inj e).symm, hs⟩ hm
  | iload_n n =>
    exact yldI_ok hl h fun a x ha h => y_go_ok h hE hl ⟨ha, hs⟩ hm
  | iload n =>
    exact yldI_ok hl h fun a x ha h => y_go_ok h hE hl ⟨ha, hs⟩ hm
  | lload_n n =>
    exact yldL_ok hl h fun a x ha h => y_go_ok h hE hl ⟨ha, hs⟩ hm
  | lload n =>
    exact yldL_ok hl h fun a x ha h => y_go_ok h hE hl ⟨ha, hs⟩ hm
  | aload_n n =>
    exact yldR_ok hl h fun q o hq h => y_go_ok h hE hl ⟨⟨rfl, hq⟩, hs⟩ hm
  | aload n =>
    exact yldR_ok hl h fun q o hq h => y_go_ok h hE hl ⟨⟨rfl, hq⟩, hs⟩ hm
  | istore_n n =>
    exact y1I_ok hs h fun a x r R ha hr h => y_go_ok h hE (y_st1_ok (a := yI a) (v := lI x) hl ha) hr hm
  | istore n =>
    exact y1I_ok hs h fun a x r R ha hr h => y_go_ok h hE (y_st1_ok (a := yI a) (v := lI x) hl ha) hr hm
  | lstore_n n =>
    exact y1L_ok hs h fun a x r R ha hr h => y_go_ok h hE (y_clr_ok (y_st1_ok (a := yL a) (v := lL x) hl ha)) hr hm
  | lstore n =>
    exact y1L_ok hs h fun a x r R ha hr h => y_go_ok h hE (y_clr_ok (y_st1_ok (a := yL a) (v := lL x) hl ha)) hr hm
  | astore_n n =>
    exact y1R_ok hs h fun q o r R hq hr h => y_go_ok h hE (y_st1_ok (a := .inr (.inr q)) (v := lR q.1 o) hl ⟨rfl, hq⟩) hr hm
  | astore n =>
    exact y1R_ok hs h fun q o r R hq hr h => y_go_ok h hE (y_st1_ok (a := .inr (.inr q)) (v := lR q.1 o) hl ⟨rfl, hq⟩) hr hm
  | iinc n y1 =>
    refine yldI_ok hl h fun a x ha h => ?_
    obtain ⟨ρ', h1, h2, h3⟩ := y_nm_ok hE (y_add_ok hE ha (y_is_c hE v.toInt))
    exact y_gg_ok (g := none) h trivial h1 h2 (y_st1_ok (a := yI _) (v := lI (x + v)) (y_l_mono h1 hl) h3) (y_s_mono h1 hs) (y_K_mono h1 hm)
  | iadd =>
    show y_rel X W s0 bc bs ρ zn (qa_s2I s S _)
    rw [z_s2I_eq]
    exact y1I_ok hs h fun b y r R hb hr h => y1I_ok hr h fun a x r R ha hr h => y_ps_ok h hE (y_add_ok hE ha hb) hl hr hm
  | isub =>
    show y_rel X W s0 bc bs ρ zn (qa_s2I s S _)
    rw [z_s2I_eq]
    exact y1I_ok hs h fun b y r R hb hr h => y1I_ok hr h fun a x r R ha hr h => y_ps_ok h hE (y_sub_ok hE ha hb) hl hr hm
  | imul =>
    show y_rel X W s0 bc bs ρ zn (qa_s2I s S _)
    rw [z_s2I_eq]
    exact y1I_ok hs h fun b y r R hb hr h => y1I_ok hr h fun a x r R ha hr h => y_ps_ok h hE (y_mul_ok hE ha hb) hl hr hm
  | ishl =>
    show y_rel X W s0 bc bs ρ zn (qa_s2I s S _)
    rw [z_s2I_eq]
    exact y1I_ok hs h fun b y r R hb hr h => y1I_ok hr h fun a x r R ha hr h => y_ps_ok h hE (y_sl_ok hE ha hb) hl hr hm
  | ishr =>
    show y_rel X W s0 bc bs ρ zn (qa_s2I s S _)
    rw [z_s2I_eq]
    exact y1I_ok hs h fun b y r R hb hr h => y1I_ok hr h fun a x r R ha hr h => y_ps_ok h hE (y_sr_ok hE ha hb) hl hr hm
  | iushr =>
    show y_rel X W s0 bc bs ρ zn (qa_s2I s S _)
    rw [z_s2I_eq]
    exact y1I_ok hs h fun b y r R hb hr h => y1I_ok hr h fun a x r R ha hr h => y_ps_ok h hE (y_tp_ok _) hl hr hm
  | iand =>
    show y_rel X W s0 bc bs ρ zn (qa_s2I s S _)
    rw [z_s2I_eq]
    exact y1I_ok hs h fun b y r R hb hr h => y1I_ok hr h fun a x r R ha hr h => y_ps_ok h hE (y_an_ok hE ha hb) hl hr hm
  | ior =>
    show y_rel X W s0 bc bs ρ zn (qa_s2I s S _)
    rw [z_s2I_eq]
    exact y1I_ok hs h fun b y r R hb hr h => y1I_ok hr h fun a x r R ha hr h => y_ps_ok h hE (y_orx_ok hE ha hb) hl hr hm
  | ixor =>
    show y_rel X W s0 bc bs ρ zn (qa_s2I s S _)
    rw [z_s2I_eq]
    exact y1I_ok hs h fun b y r R hb hr h => y1I_ok hr h fun a x r R ha hr h => y_ps_ok h hE (y_xox_ok hE ha hb) hl hr hm
  | idiv =>
    show y_rel X W s0 bc bs ρ zn (qa_s2I s S _)
    rw [z_s2I_eq]
    refine y1I_ok hs h fun b y r R hb hr h => y1I_ok hr h fun a x r R ha hr h => ?_
    cases hq : y_bd e b with
    | none => rw [hq] at h; cases h
    | some q =>
      rw [hq] at h
      exact y_psg_ok (y_cc_ok h).2 (z_g1 (z_nz_ok (b := q) (y_bd_ok hE hb hq) (y_cc_ok h).1)) hE (y_dv_ok hE ha hb) hl hr hm
  | irem =>
    show y_rel X W s0 bc bs ρ zn (qa_s2I s S _)
    rw [z_s2I_eq]
    refine y1I_ok hs h fun b y r R hb hr h => y1I_ok hr h fun a x r R ha hr h => ?_
    cases hq : y_bd e b with
    | none => rw [hq] at h; cases h
    | some q =>
      rw [hq] at h
      exact y_psg_ok (y_cc_ok h).2 (z_g1 (z_nz_ok (b := q) (y_bd_ok hE hb hq) (y_cc_ok h).1)) hE (y_rm_ok hE ha hb) hl hr hm
  | ineg =>
    exact y1I_ok hs h fun a x r R ha hr h => y_ps_ok h hE (y_ng_ok hE ha) hl hr hm
  | ladd =>
    show y_rel X W s0 bc bs ρ zn (qa_s2L s S _)
    rw [z_s2L_eq]
    exact y1L_ok hs h fun b y r R hb hr h => y1L_ok hr h fun a x r R ha hr h => y_go_ok h hE hl ⟨z_opL_ok (f := fun a b => a + b) ha hb, hr⟩ hm
  | lsub =>
    show y_rel X W s0 bc bs ρ zn (qa_s2L s S _)
    rw [z_s2L_eq]
    exact y1L_ok hs h fun b y r R hb hr h => y1L_ok hr h fun a x r R ha hr h => y_go_ok h hE hl ⟨z_opL_ok (f := fun a b => a - b) ha hb, hr⟩ hm
  | lmul =>
    show y_rel X W s0 bc bs ρ zn (qa_s2L s S _)
    rw [z_s2L_eq]
    exact y1L_ok hs h fun b y r R hb hr h => y1L_ok hr h fun a x r R ha hr h => y_go_ok h hE hl ⟨z_opL_ok (f := fun a b => a * b) ha hb, hr⟩ hm
  | land =>
    show y_rel X W s0 bc bs ρ zn (qa_s2L s S _)
    rw [z_s2L_eq]
    exact y1L_ok hs h fun b y r R hb hr h => y1L_ok hr h fun a x r R ha hr h => y_go_ok h hE hl ⟨z_opL_ok (f := fun a b => a &&& b) ha hb, hr⟩ hm
  | lor =>
    show y_rel X W s0 bc bs ρ zn (qa_s2L s S _)
    rw [z_s2L_eq]
    exact y1L_ok hs h fun b y r R hb hr h => y1L_ok hr h fun a x r R ha hr h => y_go_ok h hE hl ⟨z_opL_ok (f := fun a b => a ||| b) ha hb, hr⟩ hm
  | ldiv =>
    show y_rel X W s0 bc bs ρ zn (qa_s2L s S _)
    rw [z_s2L_eq]
    exact y1L_ok hs h fun b y r R hb hr h => y1L_ok hr h fun a x r R ha hr h => y_gg_ok (y_cc_ok h).2 (z_g1 (z_nzL_ok hb (y_cc_ok h).1)) (y_le_rf ρ) hE hl ⟨z_opL_ok (f := fun a b => a / b) ha hb, hr⟩ hm
  | lrem =>
    show y_rel X W s0 bc bs ρ zn (qa_s2L s S _)
    rw [z_s2L_eq]
    exact y1L_ok hs h fun b y r R hb hr h => y1L_ok hr h fun a x r R ha hr h => y_gg_ok (y_cc_ok h).2 (z_g1 (z_nzL_ok hb (y_cc_ok h).1)) (y_le_rf ρ) hE hl ⟨z_opL_ok (f := fun a b => a - a / b * b) ha hb, hr⟩ hm
  | lshl =>
    show y_rel X W s0 bc bs ρ zn (qa_sIL s S _)
    rw [z_sIL_eq]
    exact y1I_ok hs h fun b y r R hb hr h => y1L_ok hr h fun a x r R ha hr h => y_go_ok h hE hl ⟨(fun _ q => nomatch q), hr⟩ hm
  | lushr =>
    show y_rel X W s0 bc bs ρ zn (qa_sIL s S _)
    rw [z_sIL_eq]
    exact y1I_ok hs h fun b y r R hb hr h => y1L_ok hr h fun a x r R ha hr h => y_go_ok h hE hl ⟨(fun _ q => nomatch q), hr⟩ hm
  | lcmp =>
    show y_rel X W s0 bc bs ρ zn (qa_s2L s S _)
    rw [z_s2L_eq]
    exact y1L_ok hs h fun b y r R hb hr h => y1L_ok hr h fun a x r R ha hr h => y_ps_ok h hE (z_cmpL_ok ha hb) hl hr hm
  | i2l =>
    refine y1I_ok hs h fun a x r R ha hr h => y_go_ok h hE hl ⟨?_, hr⟩ hm
    intro c hc
    cases e1 : Nat.beq a.1 0 with
    | false => rw [e1] at hc; cases hc
    | true =>
      rw [e1] at hc
      cases hc
      rw [← y_is_0 hE ha e1, Int32.ofInt_toInt]
  | l2i =>
    exact y1L_ok hs h fun a x r R ha hr h => y_ps_ok h hE (z_l2i_ok ha) hl hr hm
  | i2c =>
    exact y1I_ok hs h fun a x r R ha hr h => y_ps_ok h hE (y_i2c_ok hE ha) hl hr hm
  | dup =>
    rcases st with _ | ⟨a, r⟩
    · cases h
    · rcases S with _ | ⟨u, R⟩
      · exact hs.elim
      · obtain ⟨h1, h2⟩ := y_cc_ok h
        exact y_if_rel (by rw [← y_isL_eq hs.1]; exact h1) (y_go_ok h2 hE hl ⟨hs.1, hs.1, hs.2⟩ hm)
  | pop =>
    rcases st with _ | ⟨a, r⟩
    · cases h
    · rcases S with _ | ⟨u, R⟩
      · exact hs.elim
      · obtain ⟨h1, h2⟩ := y_cc_ok h
        exact y_if_rel (by rw [← y_isL_eq hs.1]; exact h1) (y_go_ok h2 hE hl hs.2 hm)
  | dup2 =>
    rcases st with _ | ⟨a, _ | ⟨a2, r⟩⟩
    · cases h
    · cases h
    · rcases S with _ | ⟨u, _ | ⟨u2, R⟩⟩
      · exact hs.elim
      · exact hs.2.elim
      · obtain ⟨h1, h2⟩ := y_cc_ok h
        exact y_if_rel (by rw [← y_isL_eq hs.1, ← y_isL_eq hs.2.1]; exact h1) (y_go_ok h2 hE hl ⟨hs.1, hs.2.1, hs.1, hs.2.1, hs.2.2⟩ hm)
  | goto y0 =>
    exact y_go_ok h hE hl hs hm
  | ifCond c y1 =>
    exact y1I_ok hs h fun a x r R ha hr h => y_br_ok h (fun K hK => y_cnl_ok hE ha (y_is_c hE 0) hK) hl hr hm
  | if_icmp c y1 =>
    show y_rel X W s0 bc bs ρ zn (qa_s2I s S _)
    rw [z_s2I_eq]
    exact y1I_ok hs h fun b y r R hb hr h => y1I_ok hr h fun a x r R ha hr h => y_br_ok h (fun K hK => y_cnl_ok hE ha hb hK) hl hr hm
  | ifnull y0 =>
    exact y1R_ok hs h fun q o r R hq hr h => y_nl_ok hE hq hl hr hm h
  | ifnonnull y0 =>
    exact y1R_ok hs h fun q o r R hq hr h => y_nl_ok hE hq hl hr hm h
  | tableswitch y0 y1 y2 y3 =>
    exact y1I_ok hs h fun a x r R ha hr h => y_br_ok h (fun K hK => y_swl_ok hE ha _ hK) hl hr hm
  | lookupswitch y0 y1 =>
    exact y1I_ok hs h fun a x r R ha hr h => y_br_ok h (fun K hK => y_swl_ok hE ha _ hK) hl hr hm
  | iaload =>
    show y_rel X W s0 bc bs ρ zn (qa_sIR s S _)
    rw [z_sIR_eq]
    refine y1I_ok hs h fun j x r R hj hr h => y1R_ok hr h fun q o r R hq hr h => ?_
    cases e1 : Nat.blt q.1 60 with
    | true =>
      rw [e1] at h
      dsimp only at h ⊢
      obtain ⟨h1, h2⟩ := y_cc_ok h
      obtain ⟨h3, h4⟩ := qa_and h1
      obtain ⟨h4, h5⟩ := qa_and h4
      obtain ⟨i, rfl, g1, g2⟩ := y_nn_ok hE hq h5
      obtain ⟨g3, g4⟩ := y_in_ok hE hj h4
      refine y_if_rel h3 (y_gI_ok h2 hE g1 g4 hm fun ρ' v e' m' u1 u2 u3 u4 u5 => ?_)
      cases u5
      intro X' C Q hX'
      exact z_gd (z_ga (g := qa_gn (some i)) trivial g3) (hX' _ List.mem_cons_self ρ' _ _ _ u1 u2 (y_l_mono u1 hl) ⟨u3, y_s_mono u1 hr⟩ u4)
    | false =>
      rw [e1] at h
      dsimp only at h ⊢
      obtain ⟨h1, h2⟩ := y_cc_ok h
      obtain ⟨h3, h4⟩ := qa_and h1
      obtain ⟨h4, h5⟩ := qa_and h4
      obtain ⟨h5, h6⟩ := qa_and h5
      have h3 : Nat.beq q.1 65 = false := by simpa using h3
      obtain ⟨i, rfl, g1, g2⟩ := y_nn_ok hE hq h6
      obtain ⟨g3, g4⟩ := y_in_ok hE hj h5
      rw [h3]
      exact y_if_rel h4 (y_psg_ok h2 (z_ga (g := qa_gn (some i)) trivial g3) hE (y_stq_ok hE hj) hl hr hm)
  | aaload =>
    show y_rel X W s0 bc bs ρ zn (qa_sIR s S _)
    rw [z_sIR_eq]
    refine y1I_ok hs h fun j x r R hj hr h => y1R_ok hr h fun q o r R hq hr h => ?_
    obtain ⟨h1, h2⟩ := y_cc_ok h
    obtain ⟨h3, h4⟩ := qa_and h1
    obtain ⟨h4, h5⟩ := qa_and h4
    obtain ⟨i, rfl, g1, g2⟩ := y_nn_ok hE hq h5
    obtain ⟨g3, g4⟩ := y_in_ok hE hj h4
    refine y_if_rel h3 (y_aR_ok (s := s) h2 hE g1 g4 fun ρ' v e' u1 u2 u3 u4 => ?_)
    exact y_gg_ok u4 (z_ga (g := qa_gn (some i)) trivial g3) u1 u2 (y_l_mono u1 hl) ⟨u3, y_s_mono u1 hr⟩ (y_K_mono u1 hm)
  | iastore =>
    show y_rel X W s0 bc bs ρ zn (qa_sIIR s S _)
    rw [z_sIIR_eq]
    refine y1I_ok hs h fun u y r R hu hr h => y1I_ok hr h fun j x r R hj hr h => y1R_ok hr h fun q o r R hq hr h => ?_
    obtain ⟨h1, h2⟩ := y_cc_ok h
    obtain ⟨h3, h4⟩ := qa_and h1
    obtain ⟨h4, h5⟩ := qa_and h4
    obtain ⟨i, rfl, g1, g2⟩ := y_nn_ok hE hq h5
    obtain ⟨g3, g4⟩ := y_in_ok hE hj h4
    refine y_if_rel h3 (y_stI_okv hX hVW h2 hE g1 g4 hu hm fun m' u1 u2 => ?_)
    exact y_gg_ok u2 (z_ga (g := qa_gn (some i)) trivial g3) (y_le_rf ρ) hE hl hr u1
  | arraylength =>
    refine y1R_ok hs h fun q o r R hq hr h => ?_
    obtain ⟨h1, h2⟩ := y_cc_ok h
    obtain ⟨h3, h4⟩ := qa_and h1
    obtain ⟨h4, h5⟩ := qa_and h4
    have h3 : Nat.beq q.1 65 = false := by simpa using h3
    obtain ⟨i, rfl, g1, g2⟩ := y_nn_ok hE hq h5
    rw [h3]
    exact y_if_rel h4 (y_gg_ok (g := qa_gn (some i)) h2 trivial (y_le_rf ρ) hE hl ⟨y_is_c hE _, hr⟩ hm)
  | getfield y0 =>
    refine y1R_ok hs h fun q o r R hq hr h => ?_
    obtain ⟨h1, h2⟩ := y_cc_ok h
    obtain ⟨h3, h4⟩ := qa_and h1
    obtain ⟨i, rfl, g1, g2⟩ := y_nn_ok hE hq h4
    refine y_if_rel h3 (y_rdV_ok h2 hE g1 hm fun ρ' v e' m' u1 u2 u3 u4 u5 => ?_)
    cases u5
    intro X' C Q hX'
    exact hX' _ List.mem_cons_self ρ' _ _ _ u1 u2 (y_l_mono u1 hl) ⟨u3, y_s_mono u1 hr⟩ u4
  | putfield y0 =>
    have h : (match qa_tg (qa_get x 0) (qa_get x 1) with
      | 0 => y1I st fun a r => y1R r fun q r => y_cc (Nat.beq q.1 (qa_get x 0) && y_nn e q.2.1) (y_stI V e m q.1 q.2.2.1 (yc (qa_get x 1 : Int)) a fun m => y_go (pc + 3) e loc r m)
      | 1 => y1I st fun a r => y1R r fun q r => y_cc (Nat.beq q.1 (qa_get x 0) && (y_nn e q.2.1 && y_bl e a)) (y_stI V e m q.1 q.2.2.1 (yc (qa_get x 1 : Int)) a fun m => y_go (pc + 3) e loc r m)
      | 2 => y1L st fun _ r => y1R r fun q r => y_cc (Nat.beq q.1 (qa_get x 0) && y_nn e q.2.1) (y_stL V e q.1 q.2.2.1 (qa_get x 1) (y_go (pc + 3) e loc r m))
      | _ => y1R st fun a r => y1R r fun q r => y_cc (Nat.beq q.1 (qa_get x 0) && y_nn e q.2.1) (y_stR V e m q.1 q.2.2.1 (qa_get x 1) a fun m => y_go (pc + 3) e loc r m)) = some zn := h
    unfold qa_ins
    dsimp only
    rcases ht : qa_tg (qa_get x 0) (qa_get x 1) with _ | _ | _ | t
    · rw [ht] at h
      try dsimp only at h ⊢
      show y_rel X W s0 bc bs ρ zn (qa_sIR s S _)
      rw [z_sIR_eq]
      refine y1I_ok hs h fun a x' r R ha hr h => y1R_ok hr h fun q o r R hq hr h => ?_
      obtain ⟨h1, h2⟩ := y_cc_ok h
      obtain ⟨h3, h4⟩ := qa_and h1
      obtain ⟨i, rfl, g1, g2⟩ := y_nn_ok hE hq h4
      refine y_if_rel h3 (y_stI_okv hX hVW h2 hE g1 (y_is_c hE (qa_get x 1 : Int)) ha hm fun m' u1 u2 => ?_)
      exact y_gg_ok (g := qa_gn (some i)) u2 trivial (y_le_rf ρ) hE hl hr u1
    · rw [ht] at h
      try dsimp only at h ⊢
      show y_rel X W s0 bc bs ρ zn (qa_sIR s S _)
      rw [z_sIR_eq]
      refine y1I_ok hs h fun a x' r R ha hr h => y1R_ok hr h fun q o r R hq hr h => ?_
      obtain ⟨h1, h2⟩ := y_cc_ok h
      obtain ⟨h3, h4⟩ := qa_and h1
      obtain ⟨h4, h5⟩ := qa_and h4
      obtain ⟨i, rfl, g1, g2⟩ := y_nn_ok hE hq h4
      refine y_if_rel h3 (y_stI_okv hX hVW h2 hE g1 (y_is_c hE (qa_get x 1 : Int)) ha hm fun m' u1 u2 => ?_)
      exact y_gg_ok u2 (z_ga (g := qa_gn (some i)) trivial (y_bl_ok hE ha h5)) (y_le_rf ρ) hE hl hr u1
    · rw [ht] at h
      try dsimp only at h ⊢
      show y_rel X W s0 bc bs ρ zn (qa_sLR s S _)
      rw [z_sLR_eq]
      refine y1L_ok hs h fun a x' r R ha hr h => y1R_ok hr h fun q o r R hq hr h => ?_
      obtain ⟨h1, h2⟩ := y_cc_ok h
      obtain ⟨h3, h4⟩ := qa_and h1
      obtain ⟨i, rfl, g1, g2⟩ := y_nn_ok hE hq h4
      refine y_if_rel h3 (y_stL_okv hVW (x := x') h2 hE g1 hm hX fun u1 u2 => ?_)
      exact y_gg_ok (g := qa_gn (some i)) u2 trivial (y_le_rf ρ) hE hl hr u1
    · rw [ht] at h
      try dsimp only at h ⊢
      show y_rel X W s0 bc bs ρ zn (qa_sRR s S _)
      rw [y_sRR_eq]
      refine y1R_ok hs h fun a o' r R ha hr h => y1R_ok hr h fun q o r R hq hr h => ?_
      obtain ⟨h1, h2⟩ := y_cc_ok h
      obtain ⟨h3, h4⟩ := qa_and h1
      obtain ⟨i, rfl, g1, g2⟩ := y_nn_ok hE hq h4
      refine y_stR_okv hVW h2 hE g1 ha hm hX fun m' w1 w2 u1 u2 => ?_
      have h3' := qa_beq h3
      rw [← h3', w2, w1, show Nat.beq q.1 q.1 = true by simp]
      exact y_gg_ok (g := qa_gn (some i)) u2 trivial (y_le_rf ρ) hE hl hr u1
  | getstatic y0 =>
    exact y_go_ok h hE hl ⟨⟨rfl, y_rv_c hE (y_is_c hE 0) (Int.le_refl 0)⟩, hs⟩ hm
  | invokevirtual y0 =>
    exact y_inv2_ok hE hl hs hm h
  | invokestatic y0 =>
    exact y_stat_ok hE hl hs hm h
  | ireturn =>
    rcases st with _ | ⟨a | a | a, _ | ⟨b, r⟩⟩
    · cases h
    · rcases S with _ | ⟨u | u | u, _ | ⟨u2, R⟩⟩
      · exact hs.elim
      · have h : (match qa_get x 0 with | 0 => some (.inr (.inr (some (yI a), e, m))) | _ => y_cc (y_bl e a) (some (.inr (.inr (some (yI a), e, m))))) = some zn := h
        unfold qa_ins
        dsimp only
        split at h
        · rename_i hx
          rw [hx]
          cases h
          exact ⟨trivial, some (lI u), s, rfl, hE, hs.1, hm⟩
        · rename_i hx
          obtain ⟨h1, h2⟩ := y_cc_ok h
          cases h2
          split
          · rename_i h0
            exact absurd h0 hx
          · exact ⟨⟨y_bl_ok hE hs.1 h1, trivial⟩, some (lI u), s, rfl, hE, hs.1, hm⟩
      · exact hs.2.elim
      · exact hs.1.elim
      · exact hs.1.elim
      · exact hs.1.elim
      · exact hs.1.elim
    all_goals cases h
  | lreturn =>
    rcases st with _ | ⟨a | a | a, _ | ⟨b, r⟩⟩
    · cases h
    · cases h
    · cases h
    · rcases S with _ | ⟨u | u | u, _ | ⟨u2, R⟩⟩
      · exact hs.elim
      · exact hs.1.elim
      · exact hs.1.elim
      · cases h
        exact ⟨trivial, some (lL u), s, rfl, hE, hs.1, hm⟩
      · exact hs.2.elim
      · exact hs.1.elim
      · exact hs.1.elim
    all_goals cases h
  | areturn =>
    rcases st with _ | ⟨a | a | q, _ | ⟨b, r⟩⟩
    · cases h
    · cases h
    · cases h
    · cases h
    · cases h
    · rcases S with _ | ⟨u | u | ⟨k, o⟩, _ | ⟨u2, R⟩⟩
      · exact hs.elim
      · exact hs.1.elim
      · exact hs.1.elim
      · exact hs.1.elim
      · exact hs.1.elim
      · obtain ⟨⟨q1, q2⟩, -⟩ := hs
        have q1 : q.1 = k := q1
        subst q1
        obtain ⟨h1, h2⟩ := y_cc_ok h
        cases h2
        unfold qa_ins
        dsimp only
        have hb : (Nat.beq q.1 (qa_get x 0) || qa_nul o) = true := by
          rcases (Bool.or_eq_true _ _).mp h1 with h1 | h1
          · rw [h1]; rfl
          · have := y_sn_ok hE q2 h1
            subst this
            simp [qa_nul]
        refine y_if_rel hb ?_
        exact ⟨trivial, some (lR (qa_get x 0) o), s, rfl, hE, ⟨rfl, q2⟩, hm⟩
      · exact hs.2.elim
    · cases h
  | return_ =>
    rcases st with _ | ⟨a, r⟩
    · rcases S with _ | ⟨u, R⟩
      · cases h
        exact ⟨trivial, none, s, rfl, hE, trivial, hm⟩
      · exact hs.elim
    · cases h
  | _ => cases h
def y_bodv (CT : List YCt) (V W : List YW) (Y : Nat → List Nat → Nat → YT → Option (List YO)) (D : Nat) (cuts : List Nat) (mi : Nat) (t : YT) : Option (List YO) := match qa_ft mi t.1 with
  | none => none
  | some en => (match qy_1 V mi en t.1 t.2.1 t.2.2.1 t.2.2.2.1 t.2.2.2.2 with
    | none => none
    | some (.inl ts) => z_all (Y D cuts mi) ts
    | some (.inr (.inl c)) => (match y_cm CT W Y D c with
      | none => none
      | some os => z_all (fun o => match o.1 with
        | .inl v => (match y_kk c.2.1 c.2.2.1 v with | some st => Y D cuts mi (c.2.2.2.2.1, o.2.1, c.2.2.2.2.2.2.1, st ++ c.2.2.2.2.2.2.2.1, o.2.2) | none => none)
        | .inr _ => none) os)
    | some (.inr (.inr o)) => some [(.inl o.1, o.2.1, o.2.2)])
def yzv (CT : List YCt) (V W : List YW) : Nat → Nat → List Nat → Nat → YT → Option (List YO)
  | 0 => fun _ _ _ _ => none
  | f + 1 => fun D cuts mi t => match qa_cut cuts t.1 with
    | true => some [(.inr (t.1, t.2.2.1, t.2.2.2.1), t.2.1, t.2.2.2.2)]
    | false => y_bodv CT V W (yzv CT V W f) D cuts mi t
section YZV
variable {X : LMem → Prop} {W V : List YW} {s0 : LMem} {CT : List YCt}
theorem y_bod_okv (hX : y_clv X V) (hVW : ∀ k i j, y_iW V k i j → y_iW W k i j) (hCT : ∀ ct ∈ CT, y_con X ct) {Y : Nat → List Nat → Nat → YT → Option (List YO)} (hY : y_Yok X W s0 Y) : y_Yok X W s0 (y_bodv CT V W Y) := by
  intro D cuts mi t os h d hd bc bs ρ L S s Q hE hl hs hm hQ
  unfold y_bodv at h
  cases he : qa_ft mi t.1 with
  | none => rw [he] at h; cases h
  | some en =>
    rw [he] at h
    dsimp only at h
    refine qW_step he ?_
    cases h1 : qy_1 V mi en t.1 t.2.1 t.2.2.1 t.2.2.2.1 t.2.2.2.2 with
    | none => rw [h1] at h; cases h
    | some zn =>
      rw [h1] at h
      have hr := qy_1_okv (bc := bc) (bs := bs) hX hVW hE hl hs hm h1
      generalize qa_ins false mi bc bs en t.1 L S s = nx at hr ⊢
      rcases zn with ts | c | o
      · dsimp only at h
        refine hr _ _ _ fun t' ht ρ' L' S' s' u0 u1 u2 u3 u4 => ?_
        obtain ⟨x, h4, h5⟩ := z_all_mem h t' ht
        exact hY D cuts mi t' x h4 d hd bc bs ρ' L' S' s' Q u1 u2 u3 u4 (fun o ho ρ2 w0 w1 s2 w2 => hQ o (h5 o ho) ρ2 (y_le_tr u0 w0) w1 s2 w2)
      · dsimp only at h
        cases h2 : y_cm CT W Y D c with
        | none => rw [h2] at h; cases h
        | some os2 =>
          rw [h2] at h
          dsimp only at h
          obtain ⟨g, act⟩ := nx
          obtain ⟨hg, A, L', S', s', rfl, u1, u2, u3, u4, u5⟩ := hr
          refine z_gd hg ?_
          show qC false d c.1 A s' (qa_kk c.2.1 c.2.2.1 (fun st s' => qW false d mi bc bs c.2.2.2.2.1 L' st s' Q) S')
          refine y_cm_ok hCT hY hd h2 u1 u2 u5 (fun o ho ρ' w0 w1 s2 w2 v hv r w3 => ?_) (fun o ho => ?_)
          · obtain ⟨x, h7, h8⟩ := z_all_mem h o ho
            rw [hv] at h7
            dsimp only at h7
            cases h9 : y_kk c.2.1 c.2.2.1 v with
            | none => rw [h9] at h7; cases h7
            | some st =>
              rw [h9] at h7
              exact y_kk_ok h9 w3 w0 u4 fun S2 w4 => hY D cuts mi _ x h7 d hd bc bs ρ' L' S2 s2 Q w1 (y_l_mono w0 u3) w4 w2 (fun o ho ρ2 v0 v1 s3 v2 => hQ o (h8 o ho) ρ2 (y_le_tr w0 v0) v1 s3 v2)
          · obtain ⟨x, h7, h8⟩ := z_all_mem h o ho
            obtain ⟨o1, o2⟩ := o
            rcases o1 with v | q
            · exact ⟨v, rfl⟩
            · cases h7
      · dsimp only at h
        cases h
        obtain ⟨g, act⟩ := nx
        obtain ⟨hg, r, s', rfl, u1, u2, u3⟩ := hr
        exact z_gd hg (hQ _ List.mem_cons_self ρ (y_le_rf ρ) u1 s' u3 r u2)
theorem yz_okv (hX : y_clv X V) (hVW : ∀ k i j, y_iW V k i j → y_iW W k i j) (hCT : ∀ ct ∈ CT, y_con X ct) : ∀ f, y_Yok X W s0 (yzv CT V W f) := by
  intro f
  induction f with
  | zero => intro D cuts mi t os h; cases h
  | succ f ih =>
    intro D cuts mi t os h d hd bc bs ρ L S s Q hE hl hs hm hQ
    have h : (match qa_cut cuts t.1 with
      | true => some [(.inr (t.1, t.2.2.1, t.2.2.2.1), t.2.1, t.2.2.2.2)]
      | false => y_bodv CT V W (yzv CT V W f) D cuts mi t) = some os := h
    cases hc : qa_cut cuts t.1 with
    | true =>
      rw [hc] at h
      cases h
      exact hQ _ List.mem_cons_self ρ (y_le_rf ρ) hE s hm L S hl hs
    | false =>
      rw [hc] at h
      exact y_bod_okv hX hVW hCT ih D cuts mi t os h d hd bc bs ρ L S s Q hE hl hs hm hQ
end YZV
def y_ccutv (CT : List YCt) (V : List YW) (ct : YCt) (cuts : List YCut) (f n : Nat) (c : YCut) : Bool := Nat.beq c.2.2.2.length n && (match y_rsl (y_cs c).2.1 (y_cs c).1 (y_cs c).2.2 c.2.2.2 with
  | some a => y_vbs (y_cs c).2.1 a && y_oall (y_bodv CT V ct.2.2.2.1 (yzv CT V ct.2.2.2.1 f) (ct.2.2.2.2.2 - 1) (cuts.map (·.1)) ct.1 (c.1, (y_cs c).2.1, (y_cs c).1, [], (y_cs c).2.2)) (y_oc ct.2.2.2.2.1 cuts (some a))
  | none => false)
def y_centv (CT : List YCt) (V : List YW) (ct : YCt) (cuts : List YCut) (f : Nat) : Bool := (Nat.blt ct.1 1000 && (Nat.ble (y_exp (y_es ct).1).length (qa_mL ct.1) && Nat.blt 0 ct.2.2.2.2.2)) && y_oall (yzv CT V ct.2.2.2.1 f (ct.2.2.2.2.2 - 1) (cuts.map (·.1)) ct.1 (0, (y_es ct).2.1, y_mk (y_es ct).1 (qa_mL ct.1), [], (y_es ct).2.2)) (y_oc ct.2.2.2.2.1 cuts none)
def y_chkv (CT : List YCt) (V : List YW) (ct : YCt) (cuts : List YCut) (f n : Nat) : Bool := y_sub2 V ct.2.2.2.1 && (y_centv CT V ct cuts f && cuts.all (y_ccutv CT V ct cuts f n))
section YCHKV
variable {X : LMem → Prop}
theorem y_chk_okv {V : List YW} (hX : y_clv X V) {CT : List YCt} (hCT : ∀ ct ∈ CT, y_con X ct) {ct : YCt} {cuts : List YCut} {f n : Nat} (h : y_chkv CT V ct cuts f n = true) : y_con X ct := by
  obtain ⟨hVW, h⟩ := qa_and h
  have hVW : ∀ k i j, y_iW V k i j → y_iW ct.2.2.2.1 k i j := fun _ _ _ q => y_sub2_ok hVW q
  obtain ⟨h1, h2⟩ := qa_and h
  have h2 := List.all_eq_true.mp h2
  intro d hd As s0 Q hA hJ0 hpre hQ
  have hz := fun f => yz_okv (X := X) (V := V) (W := ct.2.2.2.1) (s0 := s0) (CT := CT) hX hVW hCT f
  obtain ⟨h3, h4⟩ := qa_and h1
  obtain ⟨h3, h5⟩ := qa_and h3
  obtain ⟨h5, h6⟩ := qa_and h5
  have h6 : 0 < ct.2.2.2.2.2 := qa_blt' h6
  obtain ⟨d', rfl⟩ : ∃ d', d = d' + 1 := ⟨d - 1, by omega⟩
  have hd' : ct.2.2.2.2.2 - 1 ≤ d' := by omega
  have hc : Nat.ble 1000 ct.1 = false := by
    cases hc : Nat.ble 1000 ct.1 with
    | false => rfl
    | true =>
      have := Nat.le_of_ble_eq_true hc
      have := qa_blt' h3
      omega
  -- the cuts
  have hcut : ∀ (k : Nat) (bc bs : Nat) (c : YCut), c ∈ cuts → ∀ (L : LLoc) (s : LMem), y_sls c.2.1 L → y_mss s c.2.2.1 → y_me (c.2.2.2.map (y_rc L s)) = k → y_J X s → y_Fr ct.2.2.2.1 s0 s → qW false d' ct.1 bc bs c.1 L [] s Q := by
    intro k
    induction k using Nat.strongRecOn with
    | _ k ih =>
      intro bc bs c hcm L s hL hms hk hJ hF
      obtain ⟨g1, g2⟩ := qa_and (h2 c hcm)
      have g1 := qa_beq g1
      cases ha : y_rsl (y_cs c).2.1 (y_cs c).1 (y_cs c).2.2 c.2.2.2 with
      | none => rw [ha] at g2; cases g2
      | some a =>
        rw [ha] at g2
        obtain ⟨g3, g4⟩ := qa_and g2
        obtain ⟨os, g5, g6⟩ := y_oall_ok g4
        obtain ⟨ρ, u2, u3, u4⟩ := y_cs_ok hL hms
        have v1 := y_rsl_ok u2 u3 u4 ha
        have v2 := y_vbs_ok u2 v1 g3
        refine y_bod_okv hX hVW hCT (hz f) _ _ _ _ _ g5 d' hd' bc bs ρ L [] s Q u2 u3 trivial ⟨u4, hJ, hF⟩ fun o ho ρ' w0 w1 s' w2 => ?_
        have g7 := g6 o ho
        unfold y_oc at g7
        obtain ⟨o1, o2⟩ := o
        rcases o1 with v | q
        · exact fun r hr => hQ r s' (y_alt_ok w1 w2.1 w2.2.1.1 hr g7) w2.2.1 w2.2.2
        · intro L' S' hl hs
          obtain ⟨pc, loc, st⟩ := q
          dsimp only at g7 w1 w2 hl hs
          cases st with
          | cons a st => cases g7
          | nil =>
            cases S' with
            | cons a b => exact hs.elim
            | nil =>
              cases hfc : y_fcut pc cuts with
              | none => rw [hfc] at g7; cases g7
              | some c2 =>
                rw [hfc] at g7
                obtain ⟨g8, g9⟩ := qa_and g7
                obtain ⟨g8, g10⟩ := qa_and g8
                obtain ⟨m1, m2⟩ := y_fcut_ok hfc
                cases hb : y_rsl o2.1 loc o2.2 c2.2.2.2 with
                | none => rw [hb] at g9; cases g9
                | some b =>
                  rw [hb] at g9
                  have hL2 := y_slc_ok w1 hl g8
                  have hM2 := y_mcs_ok w1 w2.1 w2.2.1.1 g10
                  have v3 := y_rsl_ok w1 hl w2.1 hb
                  have v4 := y_lex_ok w1 (y_vs_mono w0 v1) v3 g9
                  -- bounds of the new rank
                  obtain ⟨q1, q2⟩ := qa_and (h2 c2 m1)
                  have q1 := qa_beq q1
                  cases ha2 : y_rsl (y_cs c2).2.1 (y_cs c2).1 (y_cs c2).2.2 c2.2.2.2 with
                  | none => rw [ha2] at q2; cases q2
                  | some a2 =>
                    rw [ha2] at q2
                    obtain ⟨q3, q4⟩ := qa_and q2
                    obtain ⟨ρ2, x2, x3, x4⟩ := y_cs_ok hL2 hM2
                    have v5 := y_vbs_ok x2 (y_rsl_ok x2 x3 x4 ha2) q3
                    have hlt := y_me_dec (by rw [List.length_map, List.length_map, g1, q1]) v2 v5 v4
                    rw [hk] at hlt
                    have := ih _ hlt bc bs c2 m1 L' s' hL2 hM2 rfl w2.2.1 w2.2.2
                    rw [m2] at this
                    exact this
  -- the entry
  obtain ⟨os, g5, g6⟩ := y_oall_ok h4
  obtain ⟨ρ0, u0, u1, u3⟩ := y_insA_ok y_e0_ok hA
  obtain ⟨ρ, x0, u2, u4⟩ := y_im_ok (m := []) (s := s0) u1 (fun _ hf => absurd hf List.not_mem_nil) hpre.1
  have u3 := y_s_mono x0 u3
  have u4 := y_ef_ok u2 u3 u4 hpre.2
  rw [show (y_exp (y_es ct).1).length = (qa_exp As).length from y_l_len (y_exp_ok u3)] at h5
  refine qC_of hc h5 ?_
  refine hz f _ _ _ _ _ g5 d' hd' _ _ ρ _ [] s0 Q u2 (y_mk_ok u3 _) trivial ⟨u4, hJ0, y_Fr_rf _ _⟩ fun o ho ρ' w0 w1 s' w2 => ?_
  have g7 := g6 o ho
  unfold y_oc at g7
  obtain ⟨o1, o2⟩ := o
  rcases o1 with v | q
  · exact fun r hr => hQ r s' (y_alt_ok w1 w2.1 w2.2.1.1 hr g7) w2.2.1 w2.2.2
  · intro L' S' hl hs
    obtain ⟨pc, loc, st⟩ := q
    dsimp only at g7 w1 w2 hl hs
    cases st with
    | cons a st => cases g7
    | nil =>
      cases S' with
      | cons a b => exact hs.elim
      | nil =>
        cases hfc : y_fcut pc cuts with
        | none => rw [hfc] at g7; cases g7
        | some c2 =>
          rw [hfc] at g7
          obtain ⟨g8, g9⟩ := qa_and g7
          obtain ⟨g8, g10⟩ := qa_and g8
          obtain ⟨m1, m2⟩ := y_fcut_ok hfc
          have := hcut _ (qa_cst ct.1).1 (qa_cst ct.1).2 c2 m1 L' s' (y_slc_ok w1 hl g8) (y_mcs_ok w1 w2.1 w2.2.1.1 g10) rfl w2.2.1 w2.2.2
          rw [m2] at this
          exact this
/-- an outcome of a segment: an answer, a place where it ends, or a cut, higher on the ladder -/
def y_ocx (alts : List (Option YA × List YMS)) (exits cuts : List YCut) (old : List YS) (o : YO) : Bool := match o.1 with
  | .inl v => alts.any fun a => y_rok o.2.1 a.1 v && y_mcs o.2.1 o.2.2 a.2
  | .inr q => (match q.2.2 with
    | [] => (match y_fcut q.1 exits with
      | some c => y_slc o.2.1 c.2.1 q.2.1 && y_mcs o.2.1 o.2.2 c.2.2.1
      | none => (match y_fcut q.1 cuts with
        | some c => (y_slc o.2.1 c.2.1 q.2.1 && y_mcs o.2.1 o.2.2 c.2.2.1) && (match y_rsl o.2.1 q.2.1 o.2.2 c.2.2.2 with | some b => y_lex o.2.1 old b | none => false)
        | none => false))
    | _ => false)
def y_ccx (CT : List YCt) (V W : List YW) (mi h : Nat) (alts : List (Option YA × List YMS)) (cuts exits : List YCut) (f n : Nat) (c : YCut) : Bool := Nat.beq c.2.2.2.length n && (match y_rsl (y_cs c).2.1 (y_cs c).1 (y_cs c).2.2 c.2.2.2 with
  | some a => y_vbs (y_cs c).2.1 a && y_oall (y_bodv CT V W (yzv CT V W f) h ((exits ++ cuts).map (·.1)) mi (c.1, (y_cs c).2.1, (y_cs c).1, [], (y_cs c).2.2)) (y_ocx alts exits cuts a)
  | none => false)
def y_seg (CT : List YCt) (V W : List YW) (mi h : Nat) (alts : List (Option YA × List YMS)) (cuts exits : List YCut) (f n : Nat) : Bool := y_sub2 V W && cuts.all (y_ccx CT V W mi h alts cuts exits f n)
theorem y_seg_ok {V W : List YW} (hX : y_clv X V) {CT : List YCt} (hCT : ∀ ct ∈ CT, y_con X ct) {mi h f n : Nat} {alts : List (Option YA × List YMS)} {cuts exits : List YCut} (hs : y_seg CT V W mi h alts cuts exits f n = true) {d bc bs : Nat} (hd : h ≤ d) {s0 : LMem} {Q : LPost} (hans : ∀ r s', (∃ a ∈ alts, y_ro a.1 r ∧ y_mss s' a.2) → y_J X s' → y_Fr W s0 s' → Q r s') (hex : ∀ c ∈ exits, ∀ L s, y_sls c.2.1 L → y_mss s c.2.2.1 → y_J X s → y_Fr W s0 s → qW false d mi bc bs c.1 L [] s Q) : ∀ c ∈ cuts, ∀ L s, y_sls c.2.1 L → y_mss s c.2.2.1 → y_J X s → y_Fr W s0 s → qW false d mi bc bs c.1 L [] s Q := by
  obtain ⟨hVW, h2⟩ := qa_and hs
  have hVW : ∀ k i j, y_iW V k i j → y_iW W k i j := fun _ _ _ q => y_sub2_ok hVW q
  have h2 := List.all_eq_true.mp h2
  have hz := fun f => yz_okv (X := X) (V := V) (W := W) (s0 := s0) (CT := CT) hX hVW hCT f
  have hcut : ∀ (k : Nat) (c : YCut), c ∈ cuts → ∀ (L : LLoc) (s : LMem), y_sls c.2.1 L → y_mss s c.2.2.1 → y_me (c.2.2.2.map (y_rc L s)) = k → y_J X s → y_Fr W s0 s → qW false d mi bc bs c.1 L [] s Q := by
    intro k
    induction k using Nat.strongRecOn with
    | _ k ih =>
      intro c hcm L s hL hms hk hJ hF
      obtain ⟨g1, g2⟩ := qa_and (h2 c hcm)
      have g1 := qa_beq g1
      cases ha : y_rsl (y_cs c).2.1 (y_cs c).1 (y_cs c).2.2 c.2.2.2 with
      | none => rw [ha] at g2; cases g2
      | some a =>
        rw [ha] at g2
        obtain ⟨g3, g4⟩ := qa_and g2
        obtain ⟨os, g5, g6⟩ := y_oall_ok g4
        obtain ⟨ρ, u2, u3, u4⟩ := y_cs_ok hL hms
        have v1 := y_rsl_ok u2 u3 u4 ha
        have v2 := y_vbs_ok u2 v1 g3
        refine y_bod_okv hX hVW hCT (hz f) _ _ _ _ _ g5 d hd bc bs ρ L [] s Q u2 u3 trivial ⟨u4, hJ, hF⟩ fun o ho ρ' w0 w1 s' w2 => ?_
        have g7 := g6 o ho
        unfold y_ocx at g7
        obtain ⟨o1, o2⟩ := o
        rcases o1 with v | q
        · exact fun r hr => hans r s' (y_alt_ok w1 w2.1 w2.2.1.1 hr g7) w2.2.1 w2.2.2
        · intro L' S' hl hs
          obtain ⟨pc, loc, st⟩ := q
          dsimp only at g7 w1 w2 hl hs
          cases st with
          | cons a st => cases g7
          | nil =>
            cases S' with
            | cons a b => exact hs.elim
            | nil =>
              cases hfe : y_fcut pc exits with
              | some c2 =>
                rw [hfe] at g7
                obtain ⟨g8, g10⟩ := qa_and g7
                obtain ⟨m1, m2⟩ := y_fcut_ok hfe
                have := hex c2 m1 L' s' (y_slc_ok w1 hl g8) (y_mcs_ok w1 w2.1 w2.2.1.1 g10) w2.2.1 w2.2.2
                rw [m2] at this
                exact this
              | none =>
              rw [hfe] at g7
              cases hfc : y_fcut pc cuts with
              | none => rw [hfc] at g7; cases g7
              | some c2 =>
                rw [hfc] at g7
                obtain ⟨g8, g9⟩ := qa_and g7
                obtain ⟨g8, g10⟩ := qa_and g8
                obtain ⟨m1, m2⟩ := y_fcut_ok hfc
                cases hb : y_rsl o2.1 loc o2.2 c2.2.2.2 with
                | none => rw [hb] at g9; cases g9
                | some b =>
                  rw [hb] at g9
                  have hL2 := y_slc_ok w1 hl g8
                  have hM2 := y_mcs_ok w1 w2.1 w2.2.1.1 g10
                  have v3 := y_rsl_ok w1 hl w2.1 hb
                  have v4 := y_lex_ok w1 (y_vs_mono w0 v1) v3 g9
                  obtain ⟨q1, q2⟩ := qa_and (h2 c2 m1)
                  have q1 := qa_beq q1
                  cases ha2 : y_rsl (y_cs c2).2.1 (y_cs c2).1 (y_cs c2).2.2 c2.2.2.2 with
                  | none => rw [ha2] at q2; cases q2
                  | some a2 =>
                    rw [ha2] at q2
                    obtain ⟨q3, q4⟩ := qa_and q2
                    obtain ⟨ρ2, x2, x3, x4⟩ := y_cs_ok hL2 hM2
                    have v5 := y_vbs_ok x2 (y_rsl_ok x2 x3 x4 ha2) q3
                    have hlt := y_me_dec (by rw [List.length_map, List.length_map, g1, q1]) v2 v5 v4
                    rw [hk] at hlt
                    have := ih _ hlt c2 m1 L' s' hL2 hM2 rfl w2.2.1 w2.2.2
                    rw [m2] at this
                    exact this
  exact fun c hc L s hL hm hJ hF => hcut _ c hc L s hL hm rfl hJ hF
end YCHKV
