set_option maxHeartbeats 4000000 in
theorem qy_1_ok {X : LMem → Prop} {W : List YW} {s0 : LMem} {mi bc bs pc : Nat} {ρ : List Int} {en : LEnt} {e : YE} {loc : YLoc} {L : LLoc} {st : YStk} {S : LStk} {m : YM} {s : LMem} {zn : YN} (hX : y_cl X) (hE : y_E ρ e) (hl : y_l ρ loc L) (hs : y_s ρ st S) (hm : y_K X W s0 ρ m s) (h : qy_1 W mi en pc e loc st m = some zn) : y_rel X W s0 bc bs ρ zn (qa_ins false mi bc bs en pc L S s) := by
  obtain ⟨ins, x, v, w⟩ := en
  cases ins with
  | aconst_null =>
    exact y_go_ok h hE hl ⟨⟨rfl, Or.inl ⟨y_is_c hE 1, rfl⟩⟩, hs⟩ hm
  | iconst y0 =>
    exact y_go_ok h hE hl ⟨y_is_c hE v.toInt, hs⟩ hm
  | bipush y0 =>
    exact y_go_ok h hE hl ⟨y_is_c hE v.toInt, hs⟩ hm
  | sipush y0 =>
    exact y_go_ok h hE hl ⟨y_is_c hE v.toInt, hs⟩ hm
  | ldc y0 =>
    cases x with
    | nil => exact y_go_ok h hE hl ⟨y_is_c hE v.toInt, hs⟩ hm
    | cons t x => exact y_go_ok h hE hl ⟨⟨rfl, y_rv_c (i := t) hE (y_is_c hE (t : Int)) (Int.le_refl _)⟩, hs⟩ hm
  | ldc_w y0 =>
    exact y_go_ok h hE hl ⟨y_is_c hE v.toInt, hs⟩ hm
  | lconst y0 =>
    exact y_go_ok h hE hl ⟨fun _ e => (Option.some.inj e).symm, hs⟩ hm
  | ldc2_w y0 =>
    exact y_go_ok h hE hl ⟨fun _ e => (Option.some.inj e).symm, hs⟩ hm
  | iload_n n =>
    exact yldI_ok hl h fun a x ha h => y_go_ok h hE hl ⟨ha, hs⟩ hm
  | iload n =>
    exact yldI_ok hl h fun a x ha h => y_go_ok h hE hl ⟨ha, hs⟩ hm
  | lload_n n =>
    exact yldL_ok hl h fun a x ha h => y_go_ok h hE hl ⟨ha, hs⟩ hm
  | lload n =>
    exact yldL_ok hl h fun a x ha h => y_go_ok h hE hl ⟨ha, hs⟩ hm
  | aload_n n =>
    exact yldR_ok hl h fun q o hq h => y_go_ok h hE hl ⟨⟨rfl, hq⟩, hs⟩ hm
  | aload n =>
    exact yldR_ok hl h fun q o hq h => y_go_ok h hE hl ⟨⟨rfl, hq⟩, hs⟩ hm
  | istore_n n =>
    exact y1I_ok hs h fun a x r R ha hr h => y_go_ok h hE (y_st1_ok (a := yI a) (v := lI x) hl ha) hr hm
  | istore n =>
    exact y1I_ok hs h fun a x r R ha hr h => y_go_ok h hE (y_st1_ok (a := yI a) (v := lI x) hl ha) hr hm
  | lstore_n n =>
    exact y1L_ok hs h fun a x r R ha hr h => y_go_ok h hE (y_clr_ok (y_st1_ok (a := yL a) (v := lL x) hl ha)) hr hm
  | lstore n =>
    exact y1L_ok hs h fun a x r R ha hr h => y_go_ok h hE (y_clr_ok (y_st1_ok (a := yL a) (v := lL x) hl ha)) hr hm
  | astore_n n =>
    exact y1R_ok hs h fun q o r R hq hr h => y_go_ok h hE (y_st1_ok (a := .inr (.inr q)) (v := lR q.1 o) hl ⟨rfl, hq⟩) hr hm
  | astore n =>
    exact y1R_ok hs h fun q o r R hq hr h => y_go_ok h hE (y_st1_ok (a := .inr (.inr q)) (v := lR q.1 o) hl ⟨rfl, hq⟩) hr hm
  | iinc n y1 =>
    refine yldI_ok hl h fun a x ha h => ?_
    obtain ⟨ρ', h1, h2, h3⟩ := y_nm_ok hE (y_add_ok hE ha (y_is_c hE v.toInt))
    exact y_gg_ok (g := none) h trivial h1 h2 (y_st1_ok (a := yI _) (v := lI (x + v)) (y_l_mono h1 hl) h3) (y_s_mono h1 hs) (y_K_mono h1 hm)
  | iadd =>
    show y_rel X W s0 bc bs ρ zn (qa_s2I s S _)
    rw [z_s2I_eq]
    exact y1I_ok hs h fun b y r R hb hr h => y1I_ok hr h fun a x r R ha hr h => y_ps_ok h hE (y_add_ok hE ha hb) hl hr hm
  | isub =>
    show y_rel X W s0 bc bs ρ zn (qa_s2I s S _)
    rw [z_s2I_eq]
    exact y1I_ok hs h fun b y r R hb hr h => y1I_ok hr h fun a x r R ha hr h => y_ps_ok h hE (y_sub_ok hE ha hb) hl hr hm
  | imul =>
    show y_rel X W s0 bc bs ρ zn (qa_s2I s S _)
    rw [z_s2I_eq]
    exact y1I_ok hs h fun b y r R hb hr h => y1I_ok hr h fun a x r R ha hr h => y_ps_ok h hE (y_mul_ok hE ha hb) hl hr hm
  | ishl =>
    show y_rel X W s0 bc bs ρ zn (qa_s2I s S _)
    rw [z_s2I_eq]
    exact y1I_ok hs h fun b y r R hb hr h => y1I_ok hr h fun a x r R ha hr h => y_ps_ok h hE (y_sl_ok hE ha hb) hl hr hm
  | ishr =>
    show y_rel X W s0 bc bs ρ zn (qa_s2I s S _)
    rw [z_s2I_eq]
    exact y1I_ok hs h fun b y r R hb hr h => y1I_ok hr h fun a x r R ha hr h => y_ps_ok h hE (y_sr_ok hE ha hb) hl hr hm
  | iushr =>
    show y_rel X W s0 bc bs ρ zn (qa_s2I s S _)
    rw [z_s2I_eq]
    exact y1I_ok hs h fun b y r R hb hr h => y1I_ok hr h fun a x r R ha hr h => y_ps_ok h hE (y_tp_ok _) hl hr hm
  | iand =>
    show y_rel X W s0 bc bs ρ zn (qa_s2I s S _)
    rw [z_s2I_eq]
    exact y1I_ok hs h fun b y r R hb hr h => y1I_ok hr h fun a x r R ha hr h => y_ps_ok h hE (y_an_ok hE ha hb) hl hr hm
  | ior =>
    show y_rel X W s0 bc bs ρ zn (qa_s2I s S _)
    rw [z_s2I_eq]
    exact y1I_ok hs h fun b y r R hb hr h => y1I_ok hr h fun a x r R ha hr h => y_ps_ok h hE (y_orx_ok hE ha hb) hl hr hm
  | ixor =>
    show y_rel X W s0 bc bs ρ zn (qa_s2I s S _)
    rw [z_s2I_eq]
    exact y1I_ok hs h fun b y r R hb hr h => y1I_ok hr h fun a x r R ha hr h => y_ps_ok h hE (y_xox_ok hE ha hb) hl hr hm
  | idiv =>
    show y_rel X W s0 bc bs ρ zn (qa_s2I s S _)
    rw [z_s2I_eq]
    refine y1I_ok hs h fun b y r R hb hr h => y1I_ok hr h fun a x r R ha hr h => ?_
    cases hq : y_bd e b with
    | none => rw [hq] at h; cases h
    | some q =>
      rw [hq] at h
      exact y_psg_ok (y_cc_ok h).2 (z_g1 (z_nz_ok (b := q) (y_bd_ok hE hb hq) (y_cc_ok h).1)) hE (y_dv_ok hE ha hb) hl hr hm
  | irem =>
    show y_rel X W s0 bc bs ρ zn (qa_s2I s S _)
    rw [z_s2I_eq]
    refine y1I_ok hs h fun b y r R hb hr h => y1I_ok hr h fun a x r R ha hr h => ?_
    cases hq : y_bd e b with
    | none => rw [hq] at h; cases h
    | some q =>
      rw [hq] at h
      exact y_psg_ok (y_cc_ok h).2 (z_g1 (z_nz_ok (b := q) (y_bd_ok hE hb hq) (y_cc_ok h).1)) hE (y_rm_ok hE ha hb) hl hr hm
  | ineg =>
    exact y1I_ok hs h fun a x r R ha hr h => y_ps_ok h hE (y_ng_ok hE ha) hl hr hm
  | ladd =>
    show y_rel X W s0 bc bs ρ zn (qa_s2L s S _)
    rw [z_s2L_eq]
    exact y1L_ok hs h fun b y r R hb hr h => y1L_ok hr h fun a x r R ha hr h => y_go_ok h hE hl ⟨z_opL_ok (f := fun a b => a + b) ha hb, hr⟩ hm
  | lsub =>
    show y_rel X W s0 bc bs ρ zn (qa_s2L s S _)
    rw [z_s2L_eq]
    exact y1L_ok hs h fun b y r R hb hr h => y1L_ok hr h fun a x r R ha hr h => y_go_ok h hE hl ⟨z_opL_ok (f := fun a b => a - b) ha hb, hr⟩ hm
  | lmul =>
    show y_rel X W s0 bc bs ρ zn (qa_s2L s S _)
    rw [z_s2L_eq]
    exact y1L_ok hs h fun b y r R hb hr h => y1L_ok hr h fun a x r R ha hr h => y_go_ok h hE hl ⟨z_opL_ok (f := fun a b => a * b) ha hb, hr⟩ hm
  | land =>
    show y_rel X W s0 bc bs ρ zn (qa_s2L s S _)
    rw [z_s2L_eq]
    exact y1L_ok hs h fun b y r R hb hr h => y1L_ok hr h fun a x r R ha hr h => y_go_ok h hE hl ⟨z_opL_ok (f := fun a b => a &&& b) ha hb, hr⟩ hm
  | lor =>
    show y_rel X W s0 bc bs ρ zn (qa_s2L s S _)
    rw [z_s2L_eq]
    exact y1L_ok hs h fun b y r R hb hr h => y1L_ok hr h fun a x r R ha hr h => y_go_ok h hE hl ⟨z_opL_ok (f := fun a b => a ||| b) ha hb, hr⟩ hm
  | ldiv =>
    show y_rel X W s0 bc bs ρ zn (qa_s2L s S _)
    rw [z_s2L_eq]
    exact y1L_ok hs h fun b y r R hb hr h => y1L_ok hr h fun a x r R ha hr h => y_gg_ok (y_cc_ok h).2 (z_g1 (z_nzL_ok hb (y_cc_ok h).1)) (y_le_rf ρ) hE hl ⟨z_opL_ok (f := fun a b => a / b) ha hb, hr⟩ hm
  | lrem =>
    show y_rel X W s0 bc bs ρ zn (qa_s2L s S _)
    rw [z_s2L_eq]
    exact y1L_ok hs h fun b y r R hb hr h => y1L_ok hr h fun a x r R ha hr h => y_gg_ok (y_cc_ok h).2 (z_g1 (z_nzL_ok hb (y_cc_ok h).1)) (y_le_rf ρ) hE hl ⟨z_opL_ok (f := fun a b => a - a / b * b) ha hb, hr⟩ hm
  | lshl =>
    show y_rel X W s0 bc bs ρ zn (qa_sIL s S _)
    rw [z_sIL_eq]
    exact y1I_ok hs h fun b y r R hb hr h => y1L_ok hr h fun a x r R ha hr h => y_go_ok h hE hl ⟨(fun _ q => nomatch q), hr⟩ hm
  | lushr =>
    show y_rel X W s0 bc bs ρ zn (qa_sIL s S _)
    rw [z_sIL_eq]
    exact y1I_ok hs h fun b y r R hb hr h => y1L_ok hr h fun a x r R ha hr h => y_go_ok h hE hl ⟨(fun _ q => nomatch q), hr⟩ hm
  | lcmp =>
    show y_rel X W s0 bc bs ρ zn (qa_s2L s S _)
    rw [z_s2L_eq]
    exact y1L_ok hs h fun b y r R hb hr h => y1L_ok hr h fun a x r R ha hr h => y_ps_ok h hE (z_cmpL_ok ha hb) hl hr hm
  | i2l =>
    refine y1I_ok hs h fun a x r R ha hr h => y_go_ok h hE hl ⟨?_, hr⟩ hm
    intro c hc
    cases e1 : Nat.beq a.1 0 with
    | false => rw [e1] at hc; cases hc
    | true =>
      rw [e1] at hc
      cases hc
      rw [← y_is_0 hE ha e1, Int32.ofInt_toInt]
  | l2i =>
    exact y1L_ok hs h fun a x r R ha hr h => y_ps_ok h hE (z_l2i_ok ha) hl hr hm
  | i2c =>
    exact y1I_ok hs h fun a x r R ha hr h => y_ps_ok h hE (y_i2c_ok hE ha) hl hr hm
  | dup =>
    rcases st with _ | ⟨a, r⟩
    · cases h
    · rcases S with _ | ⟨u, R⟩
      · exact hs.elim
      · obtain ⟨h1, h2⟩ := y_cc_ok h
        exact y_if_rel (by rw [← y_isL_eq hs.1]; exact h1) (y_go_ok h2 hE hl ⟨hs.1, hs.1, hs.2⟩ hm)
  | pop =>
    rcases st with _ | ⟨a, r⟩
    · cases h
    · rcases S with _ | ⟨u, R⟩
      · exact hs.elim
      · obtain ⟨h1, h2⟩ := y_cc_ok h
        exact y_if_rel (by rw [← y_isL_eq hs.1]; exact h1) (y_go_ok h2 hE hl hs.2 hm)
  | dup2 =>
    rcases st with _ | ⟨a, _ | ⟨a2, r⟩⟩
    · cases h
    · cases h
    · rcases S with _ | ⟨u, _ | ⟨u2, R⟩⟩
      · exact hs.elim
      · exact hs.2.elim
      · obtain ⟨h1, h2⟩ := y_cc_ok h
        exact y_if_rel (by rw [← y_isL_eq hs.1, ← y_isL_eq hs.2.1]; exact h1) (y_go_ok h2 hE hl ⟨hs.1, hs.2.1, hs.1, hs.2.1, hs.2.2⟩ hm)
  | goto y0 =>
    exact y_go_ok h hE hl hs hm
  | ifCond c y1 =>
    exact y1I_ok hs h fun a x r R ha hr h => y_br_ok h (fun K hK => y_cnl_ok hE ha (y_is_c hE 0) hK) hl hr hm
  | if_icmp c y1 =>
    show y_rel X W s0 bc bs ρ zn (qa_s2I s S _)
    rw [z_s2I_eq]
    exact y1I_ok hs h fun b y r R hb hr h => y1I_ok hr h fun a x r R ha hr h => y_br_ok h (fun K hK => y_cnl_ok hE ha hb hK) hl hr hm
  | ifnull y0 =>
    exact y1R_ok hs h fun q o r R hq hr h => y_nl_ok hE hq hl hr hm h
  | ifnonnull y0 =>
    exact y1R_ok hs h fun q o r R hq hr h => y_nl_ok hE hq hl hr hm h
  | tableswitch y0 y1 y2 y3 =>
    exact y1I_ok hs h fun a x r R ha hr h => y_br_ok h (fun K hK => y_swl_ok hE ha _ hK) hl hr hm
  | lookupswitch y0 y1 =>
    exact y1I_ok hs h fun a x r R ha hr h => y_br_ok h (fun K hK => y_swl_ok hE ha _ hK) hl hr hm
  | iaload =>
    show y_rel X W s0 bc bs ρ zn (qa_sIR s S _)
    rw [z_sIR_eq]
    refine y1I_ok hs h fun j x r R hj hr h => y1R_ok hr h fun q o r R hq hr h => ?_
    cases e1 : Nat.blt q.1 60 with
    | true =>
      rw [e1] at h
      dsimp only at h ⊢
      obtain ⟨h1, h2⟩ := y_cc_ok h
      obtain ⟨h3, h4⟩ := qa_and h1
      obtain ⟨h4, h5⟩ := qa_and h4
      obtain ⟨i, rfl, g1, g2⟩ := y_nn_ok hE hq h5
      obtain ⟨g3, g4⟩ := y_in_ok hE hj h4
      refine y_if_rel h3 (y_gI_ok h2 hE g1 g4 hm fun ρ' v e' m' u1 u2 u3 u4 u5 => ?_)
      cases u5
      intro X' C Q hX'
      exact z_gd (z_ga (g := qa_gn (some i)) trivial g3) (hX' _ List.mem_cons_self ρ' _ _ _ u1 u2 (y_l_mono u1 hl) ⟨u3, y_s_mono u1 hr⟩ u4)
    | false =>
      rw [e1] at h
      dsimp only at h ⊢
      obtain ⟨h1, h2⟩ := y_cc_ok h
      obtain ⟨h3, h4⟩ := qa_and h1
      obtain ⟨h4, h5⟩ := qa_and h4
      obtain ⟨h5, h6⟩ := qa_and h5
      have h3 : Nat.beq q.1 65 = false := by simpa using h3
      obtain ⟨i, rfl, g1, g2⟩ := y_nn_ok hE hq h6
      obtain ⟨g3, g4⟩ := y_in_ok hE hj h5
      rw [h3]
      exact y_if_rel h4 (y_psg_ok h2 (z_ga (g := qa_gn (some i)) trivial g3) hE (y_stq_ok hE hj) hl hr hm)
  | aaload =>
    show y_rel X W s0 bc bs ρ zn (qa_sIR s S _)
    rw [z_sIR_eq]
    refine y1I_ok hs h fun j x r R hj hr h => y1R_ok hr h fun q o r R hq hr h => ?_
    obtain ⟨h1, h2⟩ := y_cc_ok h
    obtain ⟨h3, h4⟩ := qa_and h1
    obtain ⟨h4, h5⟩ := qa_and h4
    obtain ⟨i, rfl, g1, g2⟩ := y_nn_ok hE hq h5
    obtain ⟨g3, g4⟩ := y_in_ok hE hj h4
    refine y_if_rel h3 (y_aR_ok (s := s) h2 hE g1 g4 fun ρ' v e' u1 u2 u3 u4 => ?_)
    exact y_gg_ok u4 (z_ga (g := qa_gn (some i)) trivial g3) u1 u2 (y_l_mono u1 hl) ⟨u3, y_s_mono u1 hr⟩ (y_K_mono u1 hm)
  | iastore =>
    show y_rel X W s0 bc bs ρ zn (qa_sIIR s S _)
    rw [z_sIIR_eq]
    refine y1I_ok hs h fun u y r R hu hr h => y1I_ok hr h fun j x r R hj hr h => y1R_ok hr h fun q o r R hq hr h => ?_
    obtain ⟨h1, h2⟩ := y_cc_ok h
    obtain ⟨h3, h4⟩ := qa_and h1
    obtain ⟨h4, h5⟩ := qa_and h4
    obtain ⟨i, rfl, g1, g2⟩ := y_nn_ok hE hq h5
    obtain ⟨g3, g4⟩ := y_in_ok hE hj h4
    refine y_if_rel h3 (y_stI_ok hX h2 hE g1 g4 hu hm fun m' u1 u2 => ?_)
    exact y_gg_ok u2 (z_ga (g := qa_gn (some i)) trivial g3) (y_le_rf ρ) hE hl hr u1
  | arraylength =>
    refine y1R_ok hs h fun q o r R hq hr h => ?_
    obtain ⟨h1, h2⟩ := y_cc_ok h
    obtain ⟨h3, h4⟩ := qa_and h1
    obtain ⟨h4, h5⟩ := qa_and h4
    have h3 : Nat.beq q.1 65 = false := by simpa using h3
    obtain ⟨i, rfl, g1, g2⟩ := y_nn_ok hE hq h5
    rw [h3]
    exact y_if_rel h4 (y_gg_ok (g := qa_gn (some i)) h2 trivial (y_le_rf ρ) hE hl ⟨y_is_c hE _, hr⟩ hm)
  | getfield y0 =>
    refine y1R_ok hs h fun q o r R hq hr h => ?_
    obtain ⟨h1, h2⟩ := y_cc_ok h
    obtain ⟨h3, h4⟩ := qa_and h1
    obtain ⟨i, rfl, g1, g2⟩ := y_nn_ok hE hq h4
    refine y_if_rel h3 (y_rdV_ok h2 hE g1 hm fun ρ' v e' m' u1 u2 u3 u4 u5 => ?_)
    cases u5
    intro X' C Q hX'
    exact hX' _ List.mem_cons_self ρ' _ _ _ u1 u2 (y_l_mono u1 hl) ⟨u3, y_s_mono u1 hr⟩ u4
  | putfield y0 =>
    have h : (match qa_tg (qa_get x 0) (qa_get x 1) with
      | 0 => y1I st fun a r => y1R r fun q r => y_cc (Nat.beq q.1 (qa_get x 0) && y_nn e q.2.1) (y_stI W e m q.1 q.2.2.1 (yc (qa_get x 1 : Int)) a fun m => y_go (pc + 3) e loc r m)
      | 1 => y1I st fun a r => y1R r fun q r => y_cc (Nat.beq q.1 (qa_get x 0) && (y_nn e q.2.1 && y_bl e a)) (y_stI W e m q.1 q.2.2.1 (yc (qa_get x 1 : Int)) a fun m => y_go (pc + 3) e loc r m)
      | 2 => y1L st fun _ r => y1R r fun q r => y_cc (Nat.beq q.1 (qa_get x 0) && y_nn e q.2.1) (y_stL W e q.1 q.2.2.1 (qa_get x 1) (y_go (pc + 3) e loc r m))
      | _ => y1R st fun a r => y1R r fun q r => y_cc (Nat.beq q.1 (qa_get x 0) && y_nn e q.2.1) (y_stR W e m q.1 q.2.2.1 (qa_get x 1) a fun m => y_go (pc + 3) e loc r m)) = some zn := h
    unfold qa_ins
    dsimp only
    rcases ht : qa_tg (qa_get x 0) (qa_get x 1) with _ | _ | _ | t
    · rw [ht] at h
      try dsimp only at h ⊢
      show y_rel X W s0 bc bs ρ zn (qa_sIR s S _)
      rw [z_sIR_eq]
      refine y1I_ok hs h fun a x' r R ha hr h => y1R_ok hr h fun q o r R hq hr h => ?_
      obtain ⟨h1, h2⟩ := y_cc_ok h
      obtain ⟨h3, h4⟩ := qa_and h1
      obtain ⟨i, rfl, g1, g2⟩ := y_nn_ok hE hq h4
      refine y_if_rel h3 (y_stI_ok hX h2 hE g1 (y_is_c hE (qa_get x 1 : Int)) ha hm fun m' u1 u2 => ?_)
      exact y_gg_ok (g := qa_gn (some i)) u2 trivial (y_le_rf ρ) hE hl hr u1
    · rw [ht] at h
      try dsimp only at h ⊢
      show y_rel X W s0 bc bs ρ zn (qa_sIR s S _)
      rw [z_sIR_eq]
      refine y1I_ok hs h fun a x' r R ha hr h => y1R_ok hr h fun q o r R hq hr h => ?_
      obtain ⟨h1, h2⟩ := y_cc_ok h
      obtain ⟨h3, h4⟩ := qa_and h1
      obtain ⟨h4, h5⟩ := qa_and h4
      obtain ⟨i, rfl, g1, g2⟩ := y_nn_ok hE hq h4
      refine y_if_rel h3 (y_stI_ok hX h2 hE g1 (y_is_c hE (qa_get x 1 : Int)) ha hm fun m' u1 u2 => ?_)
      exact y_gg_ok u2 (z_ga (g := qa_gn (some i)) trivial (y_bl_ok hE ha h5)) (y_le_rf ρ) hE hl hr u1
    · rw [ht] at h
      try dsimp only at h ⊢
      show y_rel X W s0 bc bs ρ zn (qa_sLR s S _)
      rw [z_sLR_eq]
      refine y1L_ok hs h fun a x' r R ha hr h => y1R_ok hr h fun q o r R hq hr h => ?_
      obtain ⟨h1, h2⟩ := y_cc_ok h
      obtain ⟨h3, h4⟩ := qa_and h1
      obtain ⟨i, rfl, g1, g2⟩ := y_nn_ok hE hq h4
      refine y_if_rel h3 (y_stL_ok (x := x') h2 hE g1 hm hX fun u1 u2 => ?_)
      exact y_gg_ok (g := qa_gn (some i)) u2 trivial (y_le_rf ρ) hE hl hr u1
    · rw [ht] at h
      try dsimp only at h ⊢
      show y_rel X W s0 bc bs ρ zn (qa_sRR s S _)
      rw [y_sRR_eq]
      refine y1R_ok hs h fun a o' r R ha hr h => y1R_ok hr h fun q o r R hq hr h => ?_
      obtain ⟨h1, h2⟩ := y_cc_ok h
      obtain ⟨h3, h4⟩ := qa_and h1
      obtain ⟨i, rfl, g1, g2⟩ := y_nn_ok hE hq h4
      refine y_stR_ok h2 hE g1 ha hm hX fun m' w1 w2 u1 u2 => ?_
      have h3' := qa_beq h3
      rw [← h3', w2, w1, show Nat.beq q.1 q.1 = true by simp]
      exact y_gg_ok (g := qa_gn (some i)) u2 trivial (y_le_rf ρ) hE hl hr u1
  | getstatic y0 =>
    exact y_go_ok h hE hl ⟨⟨rfl, y_rv_c hE (y_is_c hE 0) (Int.le_refl 0)⟩, hs⟩ hm
  | invokevirtual y0 =>
    exact y_inv2_ok hE hl hs hm h
  | invokestatic y0 =>
    exact y_stat_ok hE hl hs hm h
  | ireturn =>
    rcases st with _ | ⟨a | a | a, _ | ⟨b, r⟩⟩
    · cases h
    · rcases S with _ | ⟨u | u | u, _ | ⟨u2, R⟩⟩
      · exact hs.elim
      · have h : (match qa_get x 0 with | 0 => some (.inr (.inr (some (yI a), e, m))) | _ => y_cc (y_bl e a) (some (.inr (.inr (some (yI a), e, m))))) = some zn := h
        unfold qa_ins
        dsimp only
        split at h
        · rename_i hx
          rw [hx]
          cases h
          exact ⟨trivial, some (lI u), s, rfl, hE, hs.1, hm⟩
        · rename_i hx
          obtain ⟨h1, h2⟩ := y_cc_ok h
          cases h2
          split
          · rename_i h0
            exact absurd h0 hx
          · exact ⟨⟨y_bl_ok hE hs.1 h1, trivial⟩, some (lI u), s, rfl, hE, hs.1, hm⟩
      · exact hs.2.elim
      · exact hs.1.elim
      · exact hs.1.elim
      · exact hs.1.elim
      · exact hs.1.elim
    all_goals cases h
  | lreturn =>
    rcases st with _ | ⟨a | a | a, _ | ⟨b, r⟩⟩
    · cases h
    · cases h
    · cases h
    · rcases S with _ | ⟨u | u | u, _ | ⟨u2, R⟩⟩
      · exact hs.elim
      · exact hs.1.elim
      · exact hs.1.elim
      · cases h
        exact ⟨trivial, some (lL u), s, rfl, hE, hs.1, hm⟩
      · exact hs.2.elim
      · exact hs.1.elim
      · exact hs.1.elim
    all_goals cases h
  | areturn =>
    rcases st with _ | ⟨a | a | q, _ | ⟨b, r⟩⟩
    · cases h
    · cases h
    · cases h
    · cases h
    · cases h
    · rcases S with _ | ⟨u | u | ⟨k, o⟩, _ | ⟨u2, R⟩⟩
      · exact hs.elim
      · exact hs.1.elim
      · exact hs.1.elim
      · exact hs.1.elim
      · exact hs.1.elim
      · obtain ⟨⟨q1, q2⟩, -⟩ := hs
        have q1 : q.1 = k := q1
        subst q1
        obtain ⟨h1, h2⟩ := y_cc_ok h
        cases h2
        unfold qa_ins
        dsimp only
        have hb : (Nat.beq q.1 (qa_get x 0) || qa_nul o) = true := by
          rcases (Bool.or_eq_true _ _).mp h1 with h1 | h1
          · rw [h1]; rfl
          · have := y_sn_ok hE q2 h1
            subst this
            simp [qa_nul]
        refine y_if_rel hb ?_
        exact ⟨trivial, some (lR (qa_get x 0) o), s, rfl, hE, ⟨rfl, q2⟩, hm⟩
      · exact hs.2.elim
    · cases h
  | return_ =>
    rcases st with _ | ⟨a, r⟩
    · rcases S with _ | ⟨u, R⟩
      · cases h
        exact ⟨trivial, none, s, rfl, hE, trivial, hm⟩
      · exact hs.elim
    · cases h
  | _ => cases h
