/-! BOTH SIDES KEEP THE SAME LAWS. -/
def rl_k (W : List YW) : Bool := W.all fun w => [8, 9, 10].all fun k => !(Nat.beq w.1 k)
def rl_m (W : List YW) : Bool := W.all fun w => [35, 36, 38, 39, 40, 41].all fun k => !(Nat.beq w.1 k)
def rl_W (W : List YW) : Bool := (rl_k W && rl_m W) && w_off W 33 0 13
theorem rl_a {W : List YW} {ks : List Nat} {s m : LMem} (F : y_Fr W s m) (h : (W.all fun w => ks.all fun k => !(Nat.beq w.1 k)) = true) (k : Nat) (hk : k ∈ ks) (i j : Nat) : gI m k i j = gI s k i j := fr_K F k (List.all_eq_true.mpr fun w hw => List.all_eq_true.mp (List.all_eq_true.mp h w hw) k hk) i j
theorem kT_fr {W : List YW} {D : Nat} {s m : LMem} (F : y_Fr W s m) (h : rl_k W = true) : kT D s m := fun k i j hk _ => rl_a F h k (by rcases hk with rfl | rfl | rfl <;> decide) i j
theorem kM_fr {W : List YW} {n : Nat} {s m : LMem} (F : y_Fr W s m) (h : rl_m W = true) : kM n s m := fun k j hk => rl_a F h k (by
  rcases hk with ⟨rfl | rfl, _⟩ | ⟨rfl, _⟩ | ⟨h1, h2, _⟩
  · decide
  · decide
  · decide
  · have : k = 39 ∨ k = 40 ∨ k = 41 := by omega
    rcases this with rfl | rfl | rfl <;> decide) 0 j
theorem cC_fr {W : List YW} {n : Nat} {s m : LMem} {L : List Ck} (F : y_Fr W s m) (h : rl_k W = true) (c : cC n s L) : cC n m L := cC_T (kT_fr F h) (show n ≠ n + 1 by omega) c
theorem RLw_fr {W : List YW} (h : rl_W W = true) {s m : LMem} (F : y_Fr W s m) (R : RLw s) : RLw m := by
  obtain ⟨h1, h2⟩ := qa_and h
  obtain ⟨h1, h3⟩ := qa_and h1
  exact RLw_k (F 33 0 13 (w_off_ok h2)).1 (kT_fr F h1) (fun n _ => kM_fr F h3) R
def zW (s : LMem) : Prop := zD s ∧ RLw s
def lqw (s : LMem) (Q : LPost) : Prop := ∀ v s', zW s' → (∀ i j, gI s' 65 i j = gI s 65 i j) → Q (some (lI v)) s'
theorem sf_conl {ct : YCt} (H : y_con x_X ct) (hk : ((Nat.ble ct.2.2.2.2.2 1200 && ((ct.2.2.2.1.all rk_w && rq_W ct.2.2.2.1) && ct.2.2.2.2.1.all sf_a)) && rl_W ct.2.2.2.1) = true) (hp : ct.2.2.1 = ([], [])) {As : List LV} {s : LMem} {Q : LPost} (hA : y_as ct.2.1 As) (hJ : zW s) (h : lqw s Q) : qC false 1200 ct.1 As s Q := by
  obtain ⟨k1, k2⟩ := qa_and hk
  obtain ⟨k3, _⟩ := qa_and k1
  have a := sf_cond H k1 hp (Q := fun r m => ∃ v, r = some (lI v) ∧ zD m ∧ ∀ i j, gI m 65 i j = gI s 65 i j) hA hJ.1 (fun v s' z x => ⟨v, rfl, z, x⟩)
  have b := fr_con (d := 1200) H (Nat.le_of_ble_eq_true k3) hp hA hJ.1.1.1.1
  refine qC_mono (qC_and a b) fun r m q => ?_
  obtain ⟨⟨v, rfl, z, x⟩, _, F⟩ := q
  exact h v m ⟨z, RLw_fr k2 F hJ.2⟩ x
theorem sf_conlR {ct : YCt} (H : ∀ s0, y_con (xR s0) ct) (hk : ((Nat.ble ct.2.2.2.2.2 1200 && ((ct.2.2.2.1.all rk_w && rq_S ct.2.2.2.1) && ct.2.2.2.2.1.all sf_a)) && rl_W ct.2.2.2.1) = true) (hp : ct.2.2.1 = ([], [])) {As : List LV} {s : LMem} {Q : LPost} (hA : y_as ct.2.1 As) (hJ : zW s) (h : lqw s Q) : qC false 1200 ct.1 As s Q := by
  obtain ⟨k1, k2⟩ := qa_and hk
  obtain ⟨k3, _⟩ := qa_and k1
  have a := sf_conR H k1 hp (Q := fun r m => ∃ v, r = some (lI v) ∧ zD m ∧ ∀ i j, gI m 65 i j = gI s 65 i j) hA hJ.1 (fun v s' z x => ⟨v, rfl, z, x⟩)
  have b : qC false 1200 ct.1 As s (fun _ m => y_Fr ct.2.2.2.1 s m) := H s 1200 (Nat.le_of_ble_eq_true k3) As s _ hA (J_xR hJ.1.1.1.1 (RS_rf s)) (by rw [hp]; exact ⟨y_msnil, fun _ q => absurd q List.not_mem_nil⟩) fun r s' hr J' F' => F'
  refine qC_mono (qC_and a b) fun r m q => ?_
  obtain ⟨⟨v, rfl, z, x⟩, F⟩ := q
  exact h v m ⟨z, RLw_fr k2 F hJ.2⟩ x
abbrev prl (s1 : LMem) (v : Int32) : LPost := fun r s2 => r = some (lI v) ∧ zW s2 ∧ ∀ i j, gI s2 65 i j = gI s1 65 i j
section PLL
variable {s : LMem} {Q : LPost}
theorem rlc {d : Nat} {ct : YCt} (H : y_con x_X ct) (hd : ct.2.2.2.2.2 ≤ d) (hp : ct.2.2.1 = ([], [])) {As : List LV} (hA : y_as ct.2.1 As) (hJ : y_J x_X s) (hw : rl_W ct.2.2.2.1 = true) (R : RLw s) : qC false d ct.1 As s (fun _ s' => RLw s') := qC_mono (fr_con H hd hp hA hJ) fun _ _ q => RLw_fr hw q.2 R
theorem prl_end {p : Int32} (hJ : zW s) (h : ∀ v s1, y_J x_X s1 → (∀ i j, gI s1 65 i j = gI s 65 i j) → (∀ p', p' = p → qC false 1200 203 [lR 33 (some 0), lI p'] s1 (prl s1 v)) → Q (some (lI v)) s1) : qC false 1200 144 [lR 0 (some 0), lI p] s Q := by
  have a0 := prd_end (p := p) (s := s) (Q := fun r s1 => ∃ v, r = some (lI v) ∧ y_J x_X s1 ∧ (∀ i j, gI s1 65 i j = gI s 65 i j) ∧ ∀ p', p' = p → qC false 1200 203 [lR 33 (some 0), lI p'] s1 (prd s1 v)) hJ.1 (fun v s1 a b c => ⟨v, rfl, a, b, c⟩)
  have b0 : qC false 1200 144 [lR 0 (some 0), lI p] s (fun _ m => RLw m) := rlc (d := 1200) (As := [lR 0 (some 0), lI p]) (y_all x_X_cl h_all0 yk_X11_end (List.mem_of_getElem? (i := 186) rfl)) (by decide +kernel) rfl ⟨y_rcv, z_in_top _, trivial⟩ hJ.1.1.1.1 (by decide +kernel) hJ.2
  refine qC_mono (qC_and a0 b0) fun r s1 q => ?_
  obtain ⟨⟨v, rfl, J1, X1, c⟩, R1⟩ := q
  refine h v s1 J1 X1 (fun p' ep => ?_)
  have b2 : qC false 1200 203 [lR 33 (some 0), lI p'] s1 (fun _ m => RLw m) := rlc (d := 1200) (As := [lR 33 (some 0), lI p']) (y_all x_X_cl h_all0 yk_X12_end (List.mem_of_getElem? (i := 187) rfl)) (by decide +kernel) rfl ⟨y_rcv, z_in_top _, trivial⟩ J1 (by decide +kernel) R1
  refine qC_mono (qC_and (c _ ep) b2) fun r s2 q => ?_
  obtain ⟨⟨e, z2, x2⟩, R2⟩ := q
  exact ⟨e, ⟨z2, R2⟩, x2⟩
theorem prl_feed {a : Int32} {b : Int32} {e : Int32} {f : Int32} {g : Int32} (hJ : zW s) (h : ∀ v s1, y_J x_X s1 → (∀ i j, gI s1 65 i j = gI s 65 i j) → (∀ a' b' e' f' g', a' = a → b' = b → e' = e → f' = f → g' = g → qC false 1200 202 [lR 33 (some 0), lI a', lI b', lI e', lI f', lI g'] s1 (prl s1 v)) → Q (some (lI v)) s1) : qC false 1200 143 [lR 0 (some 0), lI a, lI b, lI e, lI f, lI g] s Q := by
  have a0 := prd_feed (a := a) (b := b) (e := e) (f := f) (g := g) (s := s) (Q := fun r s1 => ∃ v, r = some (lI v) ∧ y_J x_X s1 ∧ (∀ i j, gI s1 65 i j = gI s 65 i j) ∧ ∀ a' b' e' f' g', a' = a → b' = b → e' = e → f' = f → g' = g → qC false 1200 202 [lR 33 (some 0), lI a', lI b', lI e', lI f', lI g'] s1 (prd s1 v)) hJ.1 (fun v s1 a b c => ⟨v, rfl, a, b, c⟩)
  have b0 : qC false 1200 143 [lR 0 (some 0), lI a, lI b, lI e, lI f, lI g] s (fun _ m => RLw m) := rlc (d := 1200) (As := [lR 0 (some 0), lI a, lI b, lI e, lI f, lI g]) (y_all x_X_cl h_all0 yk_X11_feed (List.mem_of_getElem? (i := 149) rfl)) (by decide +kernel) rfl ⟨y_rcv, z_in_top _, z_in_top _, z_in_top _, z_in_top _, z_in_top _, trivial⟩ hJ.1.1.1.1 (by decide +kernel) hJ.2
  refine qC_mono (qC_and a0 b0) fun r s1 q => ?_
  obtain ⟨⟨v, rfl, J1, X1, c⟩, R1⟩ := q
  refine h v s1 J1 X1 (fun a' b' e' f' g' ea eb ee ef eg => ?_)
  have b2 : qC false 1200 202 [lR 33 (some 0), lI a', lI b', lI e', lI f', lI g'] s1 (fun _ m => RLw m) := rlc (d := 1200) (As := [lR 33 (some 0), lI a', lI b', lI e', lI f', lI g']) h_X12_feed (by decide +kernel) rfl ⟨y_rcv, z_in_top _, z_in_top _, z_in_top _, z_in_top _, z_in_top _, trivial⟩ J1 (by decide +kernel) R1
  refine qC_mono (qC_and (c _ _ _ _ _ ea eb ee ef eg) b2) fun r s2 q => ?_
  obtain ⟨⟨e, z2, x2⟩, R2⟩ := q
  exact ⟨e, ⟨z2, R2⟩, x2⟩
theorem prl_text0 (hJ : zW s) (h : ∀ v s1, y_J x_X s1 → (∀ i j, gI s1 65 i j = gI s 65 i j) → (qC false 1200 236 [lR 33 (some 0), lI 0] s1 (prl s1 v)) → Q (some (lI v)) s1) : qC false 1200 146 [lR 0 (some 0), lI 0] s Q := by
  have a0 := prd_text0 (s := s) (Q := fun r s1 => ∃ v, r = some (lI v) ∧ y_J x_X s1 ∧ (∀ i j, gI s1 65 i j = gI s 65 i j) ∧ qC false 1200 236 [lR 33 (some 0), lI 0] s1 (prd s1 v)) hJ.1 (fun v s1 a b c => ⟨v, rfl, a, b, c⟩)
  have b0 : qC false 1200 146 [lR 0 (some 0), lI 0] s (fun _ m => RLw m) := rlc (d := 1200) (As := [lR 0 (some 0), lI 0]) (y_all x_X_cl h_all0 yk_X11_text_1 (List.mem_of_getElem? (i := 100) rfl)) (by decide +kernel) rfl ⟨y_rcv, ⟨by decide, by decide⟩, trivial⟩ hJ.1.1.1.1 (by decide +kernel) hJ.2
  refine qC_mono (qC_and a0 b0) fun r s1 q => ?_
  obtain ⟨⟨v, rfl, J1, X1, c⟩, R1⟩ := q
  refine h v s1 J1 X1 ?_
  have b2 : qC false 1200 236 [lR 33 (some 0), lI 0] s1 (fun _ m => RLw m) := rlc (d := 1200) (As := [lR 33 (some 0), lI 0]) h_X12_text_0 (by decide +kernel) rfl ⟨y_rcv, ⟨by decide, by decide⟩, trivial⟩ J1 (by decide +kernel) R1
  refine qC_mono (qC_and c b2) fun r s2 q => ?_
  obtain ⟨⟨e, z2, x2⟩, R2⟩ := q
  exact ⟨e, ⟨z2, R2⟩, x2⟩
theorem prl_text2 (hJ : zW s) (h : ∀ v s1, y_J x_X s1 → (∀ i j, gI s1 65 i j = gI s 65 i j) → (qC false 1200 236 [lR 33 (some 0), lI 2] s1 (prl s1 v)) → Q (some (lI v)) s1) : qC false 1200 146 [lR 0 (some 0), lI 2] s Q := by
  have a0 := prd_text2 (s := s) (Q := fun r s1 => ∃ v, r = some (lI v) ∧ y_J x_X s1 ∧ (∀ i j, gI s1 65 i j = gI s 65 i j) ∧ qC false 1200 236 [lR 33 (some 0), lI 2] s1 (prd s1 v)) hJ.1 (fun v s1 a b c => ⟨v, rfl, a, b, c⟩)
  have b0 : qC false 1200 146 [lR 0 (some 0), lI 2] s (fun _ m => RLw m) := rlc (d := 1200) (As := [lR 0 (some 0), lI 2]) (y_all x_X_cl h_all0 yk_X11_text_3 (List.mem_of_getElem? (i := 111) rfl)) (by decide +kernel) rfl ⟨y_rcv, ⟨by decide, by decide⟩, trivial⟩ hJ.1.1.1.1 (by decide +kernel) hJ.2
  refine qC_mono (qC_and a0 b0) fun r s1 q => ?_
  obtain ⟨⟨v, rfl, J1, X1, c⟩, R1⟩ := q
  refine h v s1 J1 X1 ?_
  have b2 : qC false 1200 236 [lR 33 (some 0), lI 2] s1 (fun _ m => RLw m) := rlc (d := 1200) (As := [lR 33 (some 0), lI 2]) h_X12_text_2 (by decide +kernel) rfl ⟨y_rcv, ⟨by decide, by decide⟩, trivial⟩ J1 (by decide +kernel) R1
  refine qC_mono (qC_and c b2) fun r s2 q => ?_
  obtain ⟨⟨e, z2, x2⟩, R2⟩ := q
  exact ⟨e, ⟨z2, R2⟩, x2⟩
theorem prl_text1 (hJ : zW s) (h : ∀ v s1, y_J x_X s1 → (∀ i j, gI s1 65 i j = gI s 65 i j) → qC false 1200 236 [lR 33 (some 0), lI 1] s1 (prl s1 v) → Q (some (lI v)) s1) : qC false 1200 146 [lR 0 (some 0), lI 1] s Q := by
  have J := hJ.1.1.1.1
  obtain ⟨l, h1, h2, h3, h4, h5, h6, h7, h8⟩ := hJ.1.1.1.2
  have a0 := prd_text1 (s := s) (Q := fun r s1 => ∃ v, r = some (lI v) ∧ y_J x_X s1 ∧ (∀ i j, gI s1 65 i j = gI s 65 i j) ∧ qC false 1200 236 [lR 33 (some 0), lI 1] s1 (prd s1 v)) hJ.1 (fun v s1 a b c => ⟨v, rfl, a, b, c⟩)
  have b0 := fr_con (d := 1200) (s := s) (As := [lR 0 (some 0), lI 1]) (y_all x_X_cl h_all0 yk_X11_text_2 (List.mem_of_getElem? (i := 1) rfl)) (by decide) rfl ⟨y_rcv, ⟨by decide, by decide⟩, trivial⟩ J
  have c0 := tl_111 (d := 1077) (s := s) J h2 h1 (tp_mk J h1 h5)
  refine qC_mono (qC_and (qC_and a0 b0) c0) fun r s1 q => ?_
  obtain ⟨⟨⟨v, rfl, J1, X1, c⟩, _, F1⟩, K1, V1⟩ := q
  rw [h7] at K1 V1
  have e33 : ∀ j, gI s1 33 0 j = gI s 33 0 j := fun j => fr_K F1 33 (by decide) 0 j
  have e34 : bS s1 = bC s := (funext fun j => fr_K F1 34 (by decide) 0 j).trans h4.symm
  refine h v s1 J1 X1 ?_
  have b2 := fr_con (d := 1200) (s := s1) (As := [lR 33 (some 0), lI 1]) h_X12_text_1 (by decide) rfl ⟨y_rcv, ⟨by decide, by decide⟩, trivial⟩ J1
  have c2 := tl_121 (d := 1077) (s := s1) J1 ((e33 2).trans h3) h1
  have d2 := tx_121 (d := 1077) (s := s1) J1 ((e33 2).trans h3) h1
  refine qC_mono (qC_and (qC_and (qC_and c b2) c2) d2) fun r s2 q => ?_
  obtain ⟨⟨⟨⟨er, z2, x2⟩, _, F2⟩, U2, V2⟩, w, ew, O2⟩ := q
  have evw : v = w := by
    have := er.symm.trans ew
    cases this
    rfl
  subst evw
  rw [e33] at U2 V2
  refine ⟨er, ⟨z2, ?_⟩, x2⟩
  have T2 : kT (gI s 33 0 13).toNatClampNeg s s2 := fun k i j hk hi => (kT_fr (D := i + 1) F2 (by decide +kernel) k i j hk (by omega)).trans (K1 k i j hk hi)
  have M2 : ∀ n, n < (gI s 33 0 13).toNatClampNeg → kM n s s2 := fun n hn k j g => (U2 n hn k j g).trans (kM_fr (n := n) F1 (by decide +kernel) k j g)
  obtain ⟨D, hD2, hD⟩ := y_nIof2 (N := 6) (x := gI s 33 0 13) (J.1 33 0 13 (13, 13, 0, 6) (by decide) (by decide) (by decide)).1 (J.1 33 0 13 (13, 13, 0, 6) (by decide) (by decide) (by decide)).2
  have eD : (gI s 33 0 13).toNatClampNeg = D := by rw [hD, nI_clamp (by omega)]
  rcases O2 with ⟨ev, _, _, _, e13⟩ | ⟨ev, _, _, e13⟩
  · have nv : v ≠ -1 := by
      rw [ev, e33, hD]
      exact nI_ne1 (by omega)
    obtain ⟨cs, q, k1, k2, k3⟩ := V1 (fun c => nv (by cases c; rfl))
    obtain ⟨cs2, q2, g1, g2, g3, g4, g5⟩ := V2 (fun c => nv (by rw [er] at c; cases c; rfl))
    rw [e34] at g1 g2
    have ecs : cs = cs2 := LR_det (fun c => absurd (k3.symm.trans c) (by decide)) (fun c => absurd (g2.symm.trans c) (by decide)) _ _ _ k2 g1
    subst ecs
    intro n hn
    rw [e13, e33, hD, nI_1, nI_clamp (by omega)] at hn
    by_cases g : n < D
    · obtain ⟨cs', a1, a2, a3, a4, a5⟩ := hJ.2 n (by omega)
      exact ⟨cs', lcn_M (M2 n (by omega)) a2 a3 a1, a2, a3, cC_T T2 (by omega) a4, a5⟩
    · have en : n = (gI s 33 0 13).toNatClampNeg := by omega
      rw [en]
      exact ⟨cs, g3, g4, g5, cC_fr F2 (by decide +kernel) k1, LR_run _ _ k2⟩
  · exact RLw_k (e13.trans (e33 13)) T2 M2 hJ.2
theorem prl_text {p : Int32} (hJ : zW s) (h : ∀ v s1, y_J x_X s1 → (∀ i j, gI s1 65 i j = gI s 65 i j) → (∀ p', p' = p → qC false 1200 236 [lR 33 (some 0), lI p'] s1 (prl s1 v)) → Q (some (lI v)) s1) : qC false 1200 146 [lR 0 (some 0), lI p] s Q := by
  by_cases c0 : p = 0
  · subst c0
    exact prl_text0 hJ fun v s1 J1 X1 c => h v s1 J1 X1 fun p' ep => by
      subst ep
      exact c
  by_cases c1 : p = 1
  · subst c1
    exact prl_text1 hJ fun v s1 J1 X1 c => h v s1 J1 X1 fun p' ep => by
      subst ep
      exact c
  by_cases c2 : p = 2
  · subst c2
    exact prl_text2 hJ fun v s1 J1 X1 c => h v s1 J1 X1 fun p' ep => by
      subst ep
      exact c
  refine qC_mono (tx_11N (d := 1077) c0 c1 c2) fun r m q => ?_
  obtain ⟨rfl, rfl⟩ := q
  refine h _ m hJ.1.1.1.1 (fun _ _ => rfl) fun p' ep => ?_
  subst ep
  refine qC_mono (tx_12N (d := 1077) c0 c1 c2) fun r m' q => ?_
  obtain ⟨rfl, rfl⟩ := q
  exact ⟨rfl, hJ, fun _ _ => rfl⟩
variable {d l : Nat}
theorem h_isRead0L (hJ : y_J x_X s) (hl : gI s 1 0 1 = nI l) (hl2 : l ≤ 200) (hB : tp_B (bC s) l) (h : ∀ m v, ((∀ k i j, (k = 8 ∨ k = 9 ∨ k = 10) → gI m k i j = gI s k i j) ∧ (v = 0 ∨ v = 1)) → Q (some (lI v)) m) : qC false (d + 120) 147 [lR 0 (some 0), lI 0] s Q := by
  have S := tk_rw hJ hl hl2
  have b15 := bd15 (j := 0) (hi := 4) hJ (by decide)
  have e15 : gI (sI s 1 0 2 0) 15 0 0 = gI s 15 0 0 := by rw [gI_sI, if_neg (fun q => absurd q.1 (by decide))]
  have fin : ∀ dd : Nat, dd = (gI s 15 0 0).toNatClampNeg → (0 : Int) ≤ (dd : Int) ∧ (dd : Int) ≤ 4 → qC false (d + 119) 3 [lR 4 (some dd), lR 1 (some 0)] (sI s 1 0 2 0) (fun r m => ∃ v, r = some (lI v) ∧ ((∀ k i j, (k = 8 ∨ k = 9 ∨ k = 10) → gI m k i j = gI s k i j) ∧ (v = 0 ∨ v = 1))) := fun dd edd hdd => by
    have g1 : qC false (d + 119) 3 [lR 4 (some dd), lR 1 (some 0)] (sI s 1 0 2 0) (fun r m => ∃ v, r = some (lI v) ∧ (v = 0 ∨ v = 1)) := by
      refine c_ditch (d := d + 73) hB hl2 S fun m v O => ⟨v, rfl, ?_⟩
      rcases O with ⟨⟨rfl, _⟩ | ⟨rfl, _⟩, _⟩
      · exact Or.inr rfl
      · exact Or.inl rfl
    have g2 := fr_con (d := d + 119) (s := sI s 1 0 2 0) (As := [lR 4 (some dd), lR 1 (some 0)]) (y_all x_X_cl h_all0 yk_X0_readFrom (List.mem_of_getElem? (i := 120) rfl)) (show 46 ≤ d + 119 by omega) rfl ⟨⟨rfl, Or.inr ⟨dd, rfl, ⟨Int.le_refl _, Int.le_refl _⟩, hdd.1, (by have := hdd.2; show (dd : Int) ≤ 4; omega)⟩⟩, y_rcv, trivial⟩ S.1
    refine qC_mono (qC_and g1 g2) (fun r m q => ?_)
    obtain ⟨⟨v, er, hv⟩, _, F'⟩ := q
    exact ⟨v, er, fun k i j hk => (kT_fr (D := i + 1) F' (by decide +kernel) k i j hk (by omega)).trans (ne1 (by omega) i j), hv⟩
  refine qC_of rfl rfl ?_
  refine qa_t1_W (cut := []) 100 ?_
  refine h_rewind (And.intro rfl ?_)
  refine And.intro (fun _ => ?_) (fun q => absurd rfl q)
  refine h_keptOf0 (Exists.intro _ (And.intro rfl ?_))
  refine h_ditchSlot (by rw [e15]; exact b15.1) (by rw [e15]; omega) (Or.inr (Exists.intro _ (And.intro rfl ?_)))
  refine qC_mono (fin _ (by rw [e15]; rfl) (by rw [e15]; exact cl_i b15.1 b15.2)) fun r m hr => ?_
  obtain ⟨v, er, O⟩ := hr
  refine Exists.intro v (And.intro er ?_)
  refine And.intro (fun c => ?_) (fun c => ?_)
  · have c : v = 0 := c
    subst c
    exact And.intro (Or.inl rfl) (h m 0 O)
  · have c : ¬ v = 0 := c
    have c : v = 1 := O.2.resolve_left c
    subst c
    exact And.intro (Or.inr rfl) (h m 1 O)
theorem h_isRead2L (hJ : y_J x_X s) (hl : gI s 1 0 1 = nI l) (hl2 : l ≤ 200) (hB : tp_B (bC s) l) (h : ∀ m v, ((∀ k i j, (k = 8 ∨ k = 9 ∨ k = 10) → gI m k i j = gI s k i j) ∧ (v = 0 ∨ v = 1)) → Q (some (lI v)) m) : qC false (d + 120) 147 [lR 0 (some 0), lI 2] s Q := by
  have S := tk_rw hJ hl hl2
  have b15 := bd15 (j := 2) (hi := 4) hJ (by decide)
  have e15 : gI (sI s 1 0 2 0) 15 0 2 = gI s 15 0 2 := by rw [gI_sI, if_neg (fun q => absurd q.1 (by decide))]
  have fin : ∀ dd : Nat, dd = (gI s 15 0 2).toNatClampNeg → (0 : Int) ≤ (dd : Int) ∧ (dd : Int) ≤ 4 → qC false (d + 119) 88 [lR 13 (some dd), lR 1 (some 0)] (sI s 1 0 2 0) (fun r m => ∃ v, r = some (lI v) ∧ ((∀ k i j, (k = 8 ∨ k = 9 ∨ k = 10) → gI m k i j = gI s k i j) ∧ (v = 0 ∨ v = 1))) := fun dd edd hdd => by
    have g1 : qC false (d + 119) 88 [lR 13 (some dd), lR 1 (some 0)] (sI s 1 0 2 0) (fun r m => ∃ v, r = some (lI v) ∧ (v = 0 ∨ v = 1)) := by
      refine c_rain (d := d + 78) hB hl2 S fun m v O => ⟨v, rfl, ?_⟩
      rcases O with ⟨rfl, _⟩ | ⟨rfl, _⟩
      · exact Or.inr rfl
      · exact Or.inl rfl
    have g2 := fr_con (d := d + 119) (s := sI s 1 0 2 0) (As := [lR 13 (some dd), lR 1 (some 0)]) (y_all x_X_cl h_all0 yk_X5_readFrom (List.mem_of_getElem? (i := 147) rfl)) (show 41 ≤ d + 119 by omega) rfl ⟨⟨rfl, Or.inr ⟨dd, rfl, ⟨Int.le_refl _, Int.le_refl _⟩, hdd.1, (by have := hdd.2; show (dd : Int) ≤ 4; omega)⟩⟩, y_rcv, trivial⟩ S.1
    refine qC_mono (qC_and g1 g2) (fun r m q => ?_)
    obtain ⟨⟨v, er, hv⟩, _, F'⟩ := q
    exact ⟨v, er, fun k i j hk => (kT_fr (D := i + 1) F' (by decide +kernel) k i j hk (by omega)).trans (ne1 (by omega) i j), hv⟩
  refine qC_of rfl rfl ?_
  refine qa_t1_W (cut := []) 100 ?_
  refine h_rewind (And.intro rfl ?_)
  refine And.intro (fun q => absurd q (by decide)) (fun _ => ?_)
  refine And.intro (fun q => absurd q (by decide)) (fun _ => ?_)
  refine h_keptOf2 (Exists.intro _ (And.intro rfl ?_))
  refine h_rainSlot (by rw [e15]; exact b15.1) (by rw [e15]; omega) (Or.inr (Exists.intro _ (And.intro rfl ?_)))
  refine qC_mono (fin _ (by rw [e15]; rfl) (by rw [e15]; exact cl_i b15.1 b15.2)) fun r m hr => ?_
  obtain ⟨v, er, O⟩ := hr
  refine Exists.intro v (And.intro er ?_)
  refine And.intro (fun c => ?_) (fun c => ?_)
  · have c : v = 0 := c
    subst c
    exact And.intro (Or.inl rfl) (h m 0 O)
  · have c : ¬ v = 0 := c
    have c : v = 1 := O.2.resolve_left c
    subst c
    exact And.intro (Or.inr rfl) (h m 1 O)
theorem fl_110 (hJ : y_J x_X s) (hl : gI s 1 0 1 = nI l) (hl2 : l ≤ 200) (hB : tp_B (bC s) l) : qC false (d + 123) 145 [lR 0 (some 0), lI 0] s (fun _ m => kT (gI s 15 0 1).toNatClampNeg s m) := by
  refine qC_of rfl rfl ?_
  refine qa_t1_W (cut := []) 60 ?_
  refine h_isSort0 (Exists.intro _ (And.intro rfl ?_))
  refine And.intro (fun q => absurd q (by decide)) (fun _ => ?_)
  refine h_isRead0L hJ hl hl2 hB fun m v O => Exists.intro v (And.intro rfl ?_)
  have C : kT (gI s 15 0 1).toNatClampNeg s m := fun k i j hk _ => O.1 k i j hk
  refine And.intro (fun c => ?_) (fun c => ?_)
  · refine qC_of rfl rfl ?_
    refine qa_t1_W (cut := []) 20 ?_
    exact Exists.intro _ (And.intro rfl C)
  · exact C
theorem fl_112 (hJ : y_J x_X s) (hl : gI s 1 0 1 = nI l) (hl2 : l ≤ 200) (hB : tp_B (bC s) l) : qC false (d + 123) 145 [lR 0 (some 0), lI 2] s (fun _ m => kT (gI s 15 0 1).toNatClampNeg s m) := by
  refine qC_of rfl rfl ?_
  refine qa_t1_W (cut := []) 60 ?_
  refine h_isSort2 (Exists.intro _ (And.intro rfl ?_))
  refine And.intro (fun q => absurd q (by decide)) (fun _ => ?_)
  refine h_isRead2L hJ hl hl2 hB fun m v O => Exists.intro v (And.intro rfl ?_)
  have C : kT (gI s 15 0 1).toNatClampNeg s m := fun k i j hk _ => O.1 k i j hk
  refine And.intro (fun c => ?_) (fun c => ?_)
  · refine qC_of rfl rfl ?_
    refine qa_t1_W (cut := []) 20 ?_
    exact Exists.intro _ (And.intro rfl C)
  · exact C
theorem fl_11 {p : Int32} (hJ : y_J x_X s) (hl : gI s 1 0 1 = nI l) (hl2 : l ≤ 200) (hB : tp_B (bC s) l) : qC false (d + 123) 145 [lR 0 (some 0), lI p] s (fun _ m => kT (gI s 15 0 1).toNatClampNeg s m) := by
  by_cases e0 : p = 0
  · subst e0
    exact fl_110 hJ hl hl2 hB
  by_cases e1 : p = 1
  · subst e1
    exact fl_111 hJ hl hl2 hB
  by_cases e2 : p = 2
  · subst e2
    exact fl_112 hJ hl hl2 hB
  refine qC_of rfl rfl ?_
  refine qa_t1_W (cut := []) 60 ?_
  refine h_isSortN e0 e1 e2 (Exists.intro _ (And.intro rfl ?_))
  refine And.intro (fun _ => ?_) (fun q => absurd rfl q)
  exact kT_rf
theorem fl_12 {p : Int32} (hJ : y_J x_X s) (hl : gI s 33 0 2 = nI l) (hl2 : l ≤ 200) : qC false 1200 235 [lR 33 (some 0), lI p] s (fun _ m => (∀ n, n < 6 → kM n s m) ∧ kT (gI s 33 0 13).toNatClampNeg s m ∧ gI m 33 0 13 = gI s 33 0 13) := by
  by_cases e0 : p = 0
  · subst e0
    have b := fr_con (d := 1200) (s := s) (As := [lR 33 (some 0), lI 0]) h_X12_fault_0 (by decide) rfl ⟨y_rcv, ⟨by decide, by decide⟩, trivial⟩ hJ
    exact qC_mono b fun r m q => ⟨fun n _ => kM_fr q.2 (by decide +kernel), kT_fr q.2 (by decide +kernel), fr_k q.2 33 0 13 (by decide +kernel)⟩
  by_cases e1 : p = 1
  · subst e1
    have b := fr_con (d := 1200) (s := s) (As := [lR 33 (some 0), lI 1]) h_X12_fault_1 (by decide) rfl ⟨y_rcv, ⟨by decide, by decide⟩, trivial⟩ hJ
    exact qC_mono (qC_and b (fl_121 (d := 1077) hJ hl hl2)) fun r m q => ⟨q.2, kT_fr q.1.2 (by decide +kernel), fr_k q.1.2 33 0 13 (by decide +kernel)⟩
  by_cases e2 : p = 2
  · subst e2
    have b := fr_con (d := 1200) (s := s) (As := [lR 33 (some 0), lI 2]) h_X12_fault_2 (by decide) rfl ⟨y_rcv, ⟨by decide, by decide⟩, trivial⟩ hJ
    exact qC_mono b fun r m q => ⟨fun n _ => kM_fr q.2 (by decide +kernel), kT_fr q.2 (by decide +kernel), fr_k q.2 33 0 13 (by decide +kernel)⟩
  exact h_fault_no (d := 1199) e0 e1 e2 ⟨fun _ _ => kM_rf, kT_rf, rfl⟩
theorem prl_fault {p : Int32} (hJ : zW s) (h : ∀ v s1, y_J x_X s1 → (∀ i j, gI s1 65 i j = gI s 65 i j) → (∀ p', p' = p → qC false 1200 235 [lR 33 (some 0), lI p'] s1 (prl s1 v)) → Q (some (lI v)) s1) : qC false 1200 145 [lR 0 (some 0), lI p] s Q := by
  have J := hJ.1.1.1.1
  obtain ⟨l, h1, h2, h3, h4, h5, h6, h7, h8⟩ := hJ.1.1.1.2
  have b13 := cl_i (hi := 6) (J.1 33 0 13 (13, 13, 0, 6) (by decide) (by decide) (by decide)).1 (J.1 33 0 13 (13, 13, 0, 6) (by decide) (by decide) (by decide)).2
  have a0 := prd_fault (p := p) (s := s) (Q := fun r s1 => ∃ v, r = some (lI v) ∧ y_J x_X s1 ∧ (∀ i j, gI s1 65 i j = gI s 65 i j) ∧ ∀ p', p' = p → qC false 1200 235 [lR 33 (some 0), lI p'] s1 (prd s1 v)) hJ.1 (fun v s1 a b c => ⟨v, rfl, a, b, c⟩)
  have b0 := fr_con (d := 1200) (s := s) (As := [lR 0 (some 0), lI p]) (y_all x_X_cl h_all0 yk_X11_fault (List.mem_of_getElem? (i := 0) rfl)) (by decide) rfl ⟨y_rcv, z_in_top _, trivial⟩ J
  have c0 := fl_11 (d := 1077) (p := p) J h2 h1 (tp_mk J h1 h5)
  refine qC_mono (qC_and (qC_and a0 b0) c0) fun r s1 q => ?_
  obtain ⟨⟨⟨v, rfl, J1, X1, c⟩, _, F1⟩, K1⟩ := q
  rw [h7] at K1
  have e13 : gI s1 33 0 13 = gI s 33 0 13 := fr_k F1 33 0 13 (by decide +kernel)
  have R1 : RLw s1 := RLw_k e13 K1 (fun n _ => kM_fr F1 (by decide +kernel)) hJ.2
  refine h v s1 J1 X1 fun p' ep => ?_
  have b2 := fl_12 (p := p') (s := s1) J1 ((fr_k F1 33 0 2 (by decide +kernel)).trans h3) h1
  refine qC_mono (qC_and (c p' ep) b2) fun r s2 q => ?_
  obtain ⟨⟨e, z2, x2⟩, f1, f2, f3⟩ := q
  exact ⟨e, ⟨z2, RLw_k f3 f2 (fun n hn => f1 n (by rw [e13] at hn; omega)) R1⟩, x2⟩
theorem prl_dig {a : Int32} {b : Int32} {c : Int32} {l : Int64} (hJ : zW s) (h : ∀ v s1, y_J x_X s1 → (∀ i j, gI s1 65 i j = gI s 65 i j) → (∀ a' b' c' l', a' = a → b' = b → c' = c → l' = l → qC false 1200 246 [lR 33 (some 0), lI a', lI b', lI c', lL l'] s1 (prl s1 v)) → Q (some (lI v)) s1) : qC false 1200 162 [lR 0 (some 0), lI a, lI b, lI c, lL l] s Q := by
  have a0 := prd_dig (a := a) (b := b) (c := c) (l := l) (s := s) (Q := fun r s1 => ∃ v, r = some (lI v) ∧ y_J x_X s1 ∧ (∀ i j, gI s1 65 i j = gI s 65 i j) ∧ ∀ a' b' c' l', a' = a → b' = b → c' = c → l' = l → qC false 1200 246 [lR 33 (some 0), lI a', lI b', lI c', lL l'] s1 (prd s1 v)) hJ.1 (fun v s1 a b c => ⟨v, rfl, a, b, c⟩)
  have b0 : qC false 1200 162 [lR 0 (some 0), lI a, lI b, lI c, lL l] s (fun _ m => RLw m) := rlc (d := 1200) (As := [lR 0 (some 0), lI a, lI b, lI c, lL l]) (y_all x_X_cl h_all0 yk_X11_dig (List.mem_of_getElem? (i := 122) rfl)) (by decide +kernel) rfl ⟨y_rcv, z_in_top _, z_in_top _, z_in_top _, trivial, trivial⟩ hJ.1.1.1.1 (by decide +kernel) hJ.2
  refine qC_mono (qC_and a0 b0) fun r s1 q => ?_
  obtain ⟨⟨v, rfl, J1, X1, c⟩, R1⟩ := q
  refine h v s1 J1 X1 (fun a' b' c' l' ea eb ec el => ?_)
  have b2 : qC false 1200 246 [lR 33 (some 0), lI a', lI b', lI c', lL l'] s1 (fun _ m => RLw m) := rlc (d := 1200) (As := [lR 33 (some 0), lI a', lI b', lI c', lL l']) h_X12_dig (by decide +kernel) rfl ⟨y_rcv, z_in_top _, z_in_top _, z_in_top _, trivial, trivial⟩ J1 (by decide +kernel) R1
  refine qC_mono (qC_and (c _ _ _ _ ea eb ec el) b2) fun r s2 q => ?_
  obtain ⟨⟨e, z2, x2⟩, R2⟩ := q
  exact ⟨e, ⟨z2, R2⟩, x2⟩
theorem prl_set {a : Int32} {b : Int32} (hJ : zW s) (h : ∀ v s1, y_J x_X s1 → (∀ i j, gI s1 65 i j = gI s 65 i j) → (∀ a' b', a' = a → b' = b → qC false 1200 242 [lR 33 (some 0), lI a', lI b'] s1 (prl s1 v)) → Q (some (lI v)) s1) : qC false 1200 161 [lR 0 (some 0), lI a, lI b] s Q := by
  have a0 := prd_set (a := a) (b := b) (s := s) (Q := fun r s1 => ∃ v, r = some (lI v) ∧ y_J x_X s1 ∧ (∀ i j, gI s1 65 i j = gI s 65 i j) ∧ ∀ a' b', a' = a → b' = b → qC false 1200 242 [lR 33 (some 0), lI a', lI b'] s1 (prd s1 v)) hJ.1 (fun v s1 a b c => ⟨v, rfl, a, b, c⟩)
  have b0 : qC false 1200 161 [lR 0 (some 0), lI a, lI b] s (fun _ m => RLw m) := rlc (d := 1200) (As := [lR 0 (some 0), lI a, lI b]) (y_all x_X_cl h_all0 yk_X11_set (List.mem_of_getElem? (i := 193) rfl)) (by decide +kernel) rfl ⟨y_rcv, z_in_top _, z_in_top _, trivial⟩ hJ.1.1.1.1 (by decide +kernel) hJ.2
  refine qC_mono (qC_and a0 b0) fun r s1 q => ?_
  obtain ⟨⟨v, rfl, J1, X1, c⟩, R1⟩ := q
  refine h v s1 J1 X1 (fun a' b' ea eb => ?_)
  have b2 : qC false 1200 242 [lR 33 (some 0), lI a', lI b'] s1 (fun _ m => RLw m) := rlc (d := 1200) (As := [lR 33 (some 0), lI a', lI b']) (y_all x_X_cl h_all0 yk_X12_set (List.mem_of_getElem? (i := 194) rfl)) (by decide +kernel) rfl ⟨y_rcv, z_in_top _, z_in_top _, trivial⟩ J1 (by decide +kernel) R1
  refine qC_mono (qC_and (c _ _ ea eb) b2) fun r s2 q => ?_
  obtain ⟨⟨e, z2, x2⟩, R2⟩ := q
  exact ⟨e, ⟨z2, R2⟩, x2⟩
theorem prl_day {a : Int32} (hJ : zW s) (h : ∀ v s1, y_J x_X s1 → (∀ i j, gI s1 65 i j = gI s 65 i j) → (∀ a', a' = a → qC false 1200 255 [lR 33 (some 0), lI a'] s1 (prl s1 v)) → Q (some (lI v)) s1) : qC false 1200 163 [lR 0 (some 0), lI a] s Q := by
  have a0 := prd_day (a := a) (s := s) (Q := fun r s1 => ∃ v, r = some (lI v) ∧ y_J x_X s1 ∧ (∀ i j, gI s1 65 i j = gI s 65 i j) ∧ ∀ a', a' = a → qC false 1200 255 [lR 33 (some 0), lI a'] s1 (prd s1 v)) hJ.1 (fun v s1 a b c => ⟨v, rfl, a, b, c⟩)
  have b0 : qC false 1200 163 [lR 0 (some 0), lI a] s (fun _ m => RLw m) := rlc (d := 1200) (As := [lR 0 (some 0), lI a]) (y_all x_X_cl h_all0 yk_X11_day (List.mem_of_getElem? (i := 101) rfl)) (by decide +kernel) rfl ⟨y_rcv, z_in_top _, trivial⟩ hJ.1.1.1.1 (by decide +kernel) hJ.2
  refine qC_mono (qC_and a0 b0) fun r s1 q => ?_
  obtain ⟨⟨v, rfl, J1, X1, c⟩, R1⟩ := q
  refine h v s1 J1 X1 (fun a' ea => ?_)
  have b2 : qC false 1200 255 [lR 33 (some 0), lI a'] s1 (fun _ m => RLw m) := rlc (d := 1200) (As := [lR 33 (some 0), lI a']) (y_all x_X_cl h_all0 yk_X12_day (List.mem_of_getElem? (i := 195) rfl)) (by decide +kernel) rfl ⟨y_rcv, z_in_top _, trivial⟩ J1 (by decide +kernel) R1
  refine qC_mono (qC_and (c _ ea) b2) fun r s2 q => ?_
  obtain ⟨⟨e, z2, x2⟩, R2⟩ := q
  exact ⟨e, ⟨z2, R2⟩, x2⟩
theorem prl_run {a : Int32} (hJ : zW s) (h : ∀ v s1, y_J x_X s1 → (∀ i j, gI s1 65 i j = gI s 65 i j) → (∀ a', a' = a → qC false 1200 256 [lR 33 (some 0), lI a'] s1 (prl s1 v)) → Q (some (lI v)) s1) : qC false 1200 164 [lR 0 (some 0), lI a] s Q := by
  have a0 := prd_run (a := a) (s := s) (Q := fun r s1 => ∃ v, r = some (lI v) ∧ y_J x_X s1 ∧ (∀ i j, gI s1 65 i j = gI s 65 i j) ∧ ∀ a', a' = a → qC false 1200 256 [lR 33 (some 0), lI a'] s1 (prd s1 v)) hJ.1 (fun v s1 a b c => ⟨v, rfl, a, b, c⟩)
  have b0 : qC false 1200 164 [lR 0 (some 0), lI a] s (fun _ m => RLw m) := rlc (d := 1200) (As := [lR 0 (some 0), lI a]) (y_all x_X_cl h_all0 yk_X11_run (List.mem_of_getElem? (i := 79) rfl)) (by decide +kernel) rfl ⟨y_rcv, z_in_top _, trivial⟩ hJ.1.1.1.1 (by decide +kernel) hJ.2
  refine qC_mono (qC_and a0 b0) fun r s1 q => ?_
  obtain ⟨⟨v, rfl, J1, X1, c⟩, R1⟩ := q
  refine h v s1 J1 X1 (fun a' ea => ?_)
  have b2 : qC false 1200 256 [lR 33 (some 0), lI a'] s1 (fun _ m => RLw m) := rlc (d := 1200) (As := [lR 33 (some 0), lI a']) (y_all x_X_cl h_all0 yk_X12_run (List.mem_of_getElem? (i := 150) rfl)) (by decide +kernel) rfl ⟨y_rcv, z_in_top _, trivial⟩ J1 (by decide +kernel) R1
  refine qC_mono (qC_and (c _ ea) b2) fun r s2 q => ?_
  obtain ⟨⟨e, z2, x2⟩, R2⟩ := q
  exact ⟨e, ⟨z2, R2⟩, x2⟩
theorem prl_image (hJ : zW s) (h : ∀ v s1, y_J x_X s1 → (∀ i j, gI s1 65 i j = gI s 65 i j) → (qC false 1200 311 [lR 33 (some 0)] s1 (prl s1 v)) → Q (some (lI v)) s1) : qC false 1200 171 [lR 0 (some 0)] s Q := by
  have a0 := prd_image (s := s) (Q := fun r s1 => ∃ v, r = some (lI v) ∧ y_J x_X s1 ∧ (∀ i j, gI s1 65 i j = gI s 65 i j) ∧ qC false 1200 311 [lR 33 (some 0)] s1 (prd s1 v)) hJ.1 (fun v s1 a b c => ⟨v, rfl, a, b, c⟩)
  have b0 : qC false 1200 171 [lR 0 (some 0)] s (fun _ m => RLw m) := rlc (d := 1200) (As := [lR 0 (some 0)]) (y_all x_X_cl h_all0 yk_X11_image (List.mem_of_getElem? (i := 114) rfl)) (by decide +kernel) rfl ⟨y_rcv, trivial⟩ hJ.1.1.1.1 (by decide +kernel) hJ.2
  refine qC_mono (qC_and a0 b0) fun r s1 q => ?_
  obtain ⟨⟨v, rfl, J1, X1, c⟩, R1⟩ := q
  refine h v s1 J1 X1 ?_
  have b2 : qC false 1200 311 [lR 33 (some 0)] s1 (fun _ m => RLw m) := rlc (d := 1200) (As := [lR 33 (some 0)]) h_X12_image (by decide +kernel) rfl ⟨y_rcv, trivial⟩ J1 (by decide +kernel) R1
  refine qC_mono (qC_and c b2) fun r s2 q => ?_
  obtain ⟨⟨e, z2, x2⟩, R2⟩ := q
  exact ⟨e, ⟨z2, R2⟩, x2⟩
theorem prl_back (hJ : zW s) (h : ∀ v s1, y_J x_X s1 → (∀ i j, gI s1 65 i j = gI s 65 i j) → (qC false 1200 312 [lR 33 (some 0)] s1 (prl s1 v)) → Q (some (lI v)) s1) : qC false 1200 172 [lR 0 (some 0)] s Q := by
  have a0 := prd_back (s := s) (Q := fun r s1 => ∃ v, r = some (lI v) ∧ y_J x_X s1 ∧ (∀ i j, gI s1 65 i j = gI s 65 i j) ∧ qC false 1200 312 [lR 33 (some 0)] s1 (prd s1 v)) hJ.1 (fun v s1 a b c => ⟨v, rfl, a, b, c⟩)
  have b0 : qC false 1200 172 [lR 0 (some 0)] s (fun _ m => RLw m) := rlc (d := 1200) (As := [lR 0 (some 0)]) (y_all x_X_cl h_all0 yk_X11_back (List.mem_of_getElem? (i := 115) rfl)) (by decide +kernel) rfl ⟨y_rcv, trivial⟩ hJ.1.1.1.1 (by decide +kernel) hJ.2
  refine qC_mono (qC_and a0 b0) fun r s1 q => ?_
  obtain ⟨⟨v, rfl, J1, X1, c⟩, R1⟩ := q
  refine h v s1 J1 X1 ?_
  have b2 : qC false 1200 312 [lR 33 (some 0)] s1 (fun _ m => RLw m) := rlc (d := 1200) (As := [lR 33 (some 0)]) h_X12_back (by decide +kernel) rfl ⟨y_rcv, trivial⟩ J1 (by decide +kernel) R1
  refine qC_mono (qC_and c b2) fun r s2 q => ?_
  obtain ⟨⟨e, z2, x2⟩, R2⟩ := q
  exact ⟨e, ⟨z2, R2⟩, x2⟩
theorem prl_count {a : Int32} (hJ : zW s) (h : ∀ v s1, y_J x_X s1 → (∀ i j, gI s1 65 i j = gI s 65 i j) → (∀ a', a' = a → qC false 1200 313 [lR 33 (some 0), lI a'] s1 (prl s1 v)) → Q (some (lI v)) s1) : qC false 1200 160 [lR 0 (some 0), lI a] s Q := by
  have a0 := prd_count (a := a) (s := s) (Q := fun r s1 => ∃ v, r = some (lI v) ∧ y_J x_X s1 ∧ (∀ i j, gI s1 65 i j = gI s 65 i j) ∧ ∀ a', a' = a → qC false 1200 313 [lR 33 (some 0), lI a'] s1 (prd s1 v)) hJ.1 (fun v s1 a b c => ⟨v, rfl, a, b, c⟩)
  have b0 : qC false 1200 160 [lR 0 (some 0), lI a] s (fun _ m => RLw m) := rlc (d := 1200) (As := [lR 0 (some 0), lI a]) (y_all x_X_cl h_all0 yk_X11_count (List.mem_of_getElem? (i := 222) rfl)) (by decide +kernel) rfl ⟨y_rcv, z_in_top _, trivial⟩ hJ.1.1.1.1 (by decide +kernel) hJ.2
  refine qC_mono (qC_and a0 b0) fun r s1 q => ?_
  obtain ⟨⟨v, rfl, J1, X1, c⟩, R1⟩ := q
  refine h v s1 J1 X1 (fun a' ea => ?_)
  have b2 : qC false 1200 313 [lR 33 (some 0), lI a'] s1 (fun _ m => RLw m) := rlc (d := 1200) (As := [lR 33 (some 0), lI a']) (y_all x_X_cl h_all0 yk_X12_count (List.mem_of_getElem? (i := 223) rfl)) (by decide +kernel) rfl ⟨y_rcv, z_in_top _, trivial⟩ J1 (by decide +kernel) R1
  refine qC_mono (qC_and (c _ ea) b2) fun r s2 q => ?_
  obtain ⟨⟨e, z2, x2⟩, R2⟩ := q
  exact ⟨e, ⟨z2, R2⟩, x2⟩
theorem prl_shut {a : Int32} {b : Int32} (hb : (0 : Int) ≤ b.toInt ∧ b.toInt ≤ 1) (hJ : zW s) (h : ∀ v s1, y_J x_X s1 → (∀ i j, gI s1 65 i j = gI s 65 i j) → (∀ a' b', a' = a → b' = b → qC false 1200 264 [lR 33 (some 0), lI a', lI b'] s1 (prl s1 v)) → Q (some (lI v)) s1) : qC false 1200 169 [lR 0 (some 0), lI a, lI b] s Q := by
  have a0 := prd_shut (a := a) (b := b) hb (s := s) (Q := fun r s1 => ∃ v, r = some (lI v) ∧ y_J x_X s1 ∧ (∀ i j, gI s1 65 i j = gI s 65 i j) ∧ ∀ a' b', a' = a → b' = b → qC false 1200 264 [lR 33 (some 0), lI a', lI b'] s1 (prd s1 v)) hJ.1 (fun v s1 a b c => ⟨v, rfl, a, b, c⟩)
  have b0 : qC false 1200 169 [lR 0 (some 0), lI a, lI b] s (fun _ m => RLw m) := rlc (d := 1200) (As := [lR 0 (some 0), lI a, lI b]) (y_all x_X_cl h_all0 yk_X11_shut (List.mem_of_getElem? (i := 197) rfl)) (by decide +kernel) rfl ⟨y_rcv, z_in_top _, ⟨hb.1, hb.2⟩, trivial⟩ hJ.1.1.1.1 (by decide +kernel) hJ.2
  refine qC_mono (qC_and a0 b0) fun r s1 q => ?_
  obtain ⟨⟨v, rfl, J1, X1, c⟩, R1⟩ := q
  refine h v s1 J1 X1 (fun a' b' ea eb => ?_)
  have b2 : qC false 1200 264 [lR 33 (some 0), lI a', lI b'] s1 (fun _ m => RLw m) := rlc (d := 1200) (As := [lR 33 (some 0), lI a', lI b']) (y_all x_X_cl h_all0 yk_X12_shut (List.mem_of_getElem? (i := 198) rfl)) (by decide +kernel) rfl ⟨y_rcv, z_in_top _, ⟨by rw [eb]; exact hb.1, by rw [eb]; exact hb.2⟩, trivial⟩ J1 (by decide +kernel) R1
  refine qC_mono (qC_and (c _ _ ea eb) b2) fun r s2 q => ?_
  obtain ⟨⟨e, z2, x2⟩, R2⟩ := q
  exact ⟨e, ⟨z2, R2⟩, x2⟩
end PLL
